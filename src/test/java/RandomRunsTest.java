import java.util.Random;

/** Runs of calls drawn from fixed seeds: OverHill answers what PlainHill, the document told plainly, answers. */
public final class RandomRunsTest {
    private static final int RUNS = 1500;
    private static final int CALLS = 512;
    private static final int[] WILD = {-1, -2, -100, 1 << 30, Integer.MAX_VALUE, Integer.MIN_VALUE, 12, 20, 24, 61, 100,
        300, 600, 601, 999, 1000, 99999, 100000};

    private static Random random;
    private static OverHill x;
    private static PlainHill y;
    private static int wrong = 0;
    private static long asked = 0;
    private static StringBuilder log;
    private static int need;

    public static void main(String[] args) {
        for (int run = 0; run < RUNS && wrong == 0; run++) {
            random = new Random(run);
            x = new OverHill();
            y = new PlainHill();
            log = new StringBuilder();
            // Some runs come early at an empty object, some have much ground, some little.
            int ground = random.nextInt(10) == 0 ? 0 : 10 + random.nextInt(60);
            int call = 0;
            for (; call < ground && wrong == 0; call++) {
                begin();
            }
            // Some runs tell changes above all, so that more come than are kept.
            for (; call < 200 && wrong == 0 && run % 10 == 1; call++) {
                changeCall();
            }
            for (; call < CALLS && wrong == 0; call++) {
                any();
            }
        }
        System.out.println(asked + " calls asked, " + wrong + " wrong");
        if (wrong != 0) {
            System.exit(1);
        }
    }

    private static void due(String call, long got, long want) {
        asked++;
        log.append(call).append(" = ").append(want).append('\n');
        if (got != want) {
            wrong++;
            System.out.println(log + call + " answered " + got + ", due is " + want);
        }
    }

    /** A number below n, seldom one that is not. */
    private static int below(int n) {
        return random.nextInt(25) == 0 ? wild() : random.nextInt(Math.max(1, n));
    }

    private static int wild() {
        return random.nextBoolean() ? WILD[random.nextInt(WILD.length)] : random.nextInt(10) - 3;
    }

    private static int point() {
        return below(y.heights.size());
    }

    private static int laying() {
        return below(y.layings.size());
    }

    private static int anEngine() {
        return below(y.engines.size());
    }

    private static int need() {
        int draw = random.nextInt(8);
        return draw < 3 ? 0 : draw < 6 ? below(4000) : draw == 6 ? below(20000) : need;
    }

    private static int flow() {
        return random.nextInt(20) == 0 ? wild() : random.nextInt(601);
    }

    private static int height() {
        return below(random.nextBoolean() ? 120 : 1000);
    }

    // ---- calls that make ground, hose, layings

    private static void begin() {
        int draw = random.nextInt(20);
        if (draw < 4) {
            int h = height();
            due("point(" + h + ")", x.point(h), y.point(h));
        } else if (draw < 9) {
            way();
        } else if (draw < 11) {
            engine();
        } else if (draw < 13) {
            tableOf(goodTable());
        } else if (draw < 15) {
            layingOf();
        } else {
            part();
        }
    }

    private static void way() {
        int a = point();
        int b = point();
        int l = 1 + below(random.nextInt(3) == 0 ? 30 : 8);
        due("way(" + a + ", " + b + ", " + l + ")", x.way(a, b, l), y.way(a, b, l));
    }

    private static void engine() {
        int f = below(1000);
        int s = 1 + below(9);
        due("engine(" + f + ", " + s + ")", x.engine(f, s), y.engine(f, s));
    }

    private static void layingOf() {
        int k = below(6);
        int p = point();
        due("laying(" + k + ", " + p + ")", x.laying(k, p), y.laying(k, p));
    }

    private static String goodTable() {
        boolean ofBore = y.engines.isEmpty() || random.nextBoolean();
        StringBuilder text = new StringBuilder(ofBore ? "b" : "e");
        text.append(random.nextInt(ofBore ? 3 : y.engines.size())).append(':');
        int n = 1 + random.nextInt(13);
        int v = ofBore ? random.nextInt(60) : 3000 + random.nextInt(30000);
        for (int i = 0; i < n; i++) {
            text.append(i == 0 ? "" : ",").append(v);
            int step = random.nextInt(ofBore ? 120 : 3000);
            v = Math.max(0, Math.min(99999, ofBore ? v + step : v - step));
        }
        return text.toString();
    }

    /** A table in which a byte is otherwise, lacks, or came too often. */
    private static String brokenTable() {
        StringBuilder text = new StringBuilder(goodTable());
        for (int times = 1 + random.nextInt(2); times > 0 && text.length() > 0; times--) {
            int at = random.nextInt(text.length());
            String bytes = "0123456789,,,be:x\u00ff\u0000";
            char other = bytes.charAt(random.nextInt(bytes.length()));
            switch (random.nextInt(4)) {
                case 0: text.setCharAt(at, other); break;
                case 1: text.insert(at, other); break;
                case 2: text.deleteCharAt(at); break;
                default: text.setLength(at); break;
            }
        }
        return text.toString();
    }

    private static void tableOf(String text) {
        for (int i = 0; i < text.length() && wrong == 0; ) {
            int n = Math.min(1 + random.nextInt(4), text.length() - i);
            int v = random.nextInt();
            for (int b = 0; b < n; b++) {
                v = v & ~(255 << 8 * b) | text.charAt(i + b) << 8 * b;
            }
            due("feed(" + n + ", " + v + ")", x.feed(n, v), y.feed(n, v));
            i += n;
        }
        due("table() " + text, x.table(), y.table());
    }

    private static void part() {
        int l = laying();
        int sort = random.nextInt(8) == 0 ? below(3) : random.nextInt(5) / 2 == 0 ? 0 : 1;
        int number = sort == 0 ? anEngine() : random.nextInt(10) == 0 ? wild() : aWayFrom(l);
        if (random.nextInt(10) == 0) {
            sort = 2;
        }
        int b = below(3);
        due("part(" + l + ", " + sort + ", " + number + ", " + b + ")", x.part(l, sort, number, b),
                y.part(l, sort, number, b));
    }

    private static int aWayFrom(int laying) {
        if (laying < 0 || laying >= y.layings.size() || y.ways.isEmpty()) {
            return 0;
        }
        int at = y.of(laying, 2);
        int first = random.nextInt(y.ways.size());
        for (int i = 0; i < y.ways.size(); i++) {
            int[] way = y.ways.get((first + i) % y.ways.size());
            if (way[0] == at || way[1] == at) {
                return (first + i) % y.ways.size();
            }
        }
        return first;
    }

    // ---- all calls

    private static void any() {
        switch (random.nextInt(20)) {
            case 0: begin(); break;
            case 1: case 2: groundCall(); break;
            case 3: begin(); break;
            case 4: tableOf(random.nextBoolean() ? goodTable() : brokenTable()); break;
            case 5: part(); break;
            case 6: case 7: layingCall(); break;
            case 8: case 9: mostCall(); break;
            case 10: case 11: case 12: minuteCall(); break;
            case 13: case 14: changeCall(); break;
            case 15: actCall(); break;
            default: shelfCall(); break;
        }
    }

    private static void groundCall() {
        int f = flow();
        int b = below(3);
        int w = below(3);
        int v = random.nextInt(4) == 0 ? below(100000) : below(w == 0 ? 30000 : 100);
        int e = anEngine();
        int p = point();
        int h = height();
        switch (random.nextInt(6)) {
            case 0: due("height(" + p + ", " + h + ")", x.height(p, h), y.height(p, h)); break;
            case 1: due("bore(" + b + ", " + w + ", " + v + ")", x.bore(b, w, v), y.bore(b, w, v)); break;
            case 2: due("loses(" + b + ", " + f + ")", x.loses(b, f), y.loses(b, f)); break;
            case 3: due("lifts(" + e + ", " + f + ")", x.lifts(e, f), y.lifts(e, f)); break;
            case 4: due("feed(" + b + ", " + v + ")", x.feed(b, v), y.feed(b, v)); break;
            default: due("count(" + f + ")", x.count(f), y.count(f)); break;
        }
    }

    private static void layingCall() {
        int l = laying();
        int f = flow();
        int n = need();
        int p = below(8);
        int w = random.nextBoolean() ? below(7) : 100 * (1 + random.nextInt(3)) + below(26);
        switch (random.nextInt(5)) {
            case 0: due("of(" + l + ", " + w + ")", x.of(l, w), y.of(l, w)); break;
            case 1:
                int got = x.pressure(l, p, f);
                due("pressure(" + l + ", " + p + ", " + f + ")", got, y.pressure(l, p, f));
                need = Math.abs(got);
                break;
            case 2: due("flow(" + l + ", " + n + ")", x.flow(l, n), y.flow(l, n)); break;
            case 3: due("judge(" + l + ", " + f + ", " + n + ")", x.judge(l, f, n), y.judge(l, f, n)); break;
            default: due("bound(" + l + ", " + n + ")", x.bound(l, n), y.bound(l, n)); break;
        }
    }

    private static void mostCall() {
        int l = laying();
        int n = need();
        int w = below(3);
        int p = below(8);
        switch (random.nextInt(6)) {
            case 0: case 1:
                if (w != 0 || random.nextBoolean()) {
                    due("most(" + l + ", " + n + ", " + w + ")", x.most(l, n, w), y.most(l, n, w));
                }
                break;
            case 2: due("worth(" + l + ", " + p + ", " + n + ")", x.worth(l, p, n), y.worth(l, p, n)); break;
            case 3: due("helps(" + l + ", " + n + ", " + w + ")", x.helps(l, n, w), y.helps(l, n, w)); break;
            case 4: due("goes(" + l + ", " + p + ", " + n + ")", x.goes(l, p, n), y.goes(l, p, n)); break;
            default: due("changed(" + l + ", " + p + ")", x.changed(l, p), y.changed(l, p)); break;
        }
    }

    private static void minuteCall() {
        int n = need();
        int w = below(2);
        int k = 1 + below(4);
        int v = 1 + below(99);
        int lo = random.nextInt(20) == 0 ? wild() : 100 * random.nextInt(Math.max(1, y.layings.size())) + laying();
        int worths = random.nextInt(20) == 0 ? wild() : random.nextInt(1000000);
        int chances = random.nextInt(20) == 0 ? 1030300 + random.nextInt(2) : random.nextInt(1030301);
        int water = flow();
        int e = anEngine();
        int a = point();
        int b = point();
        int bits = below(1 << y.engines.size());
        switch (random.nextInt(14)) {
            case 0: case 1: due("load(" + v + ")", x.load(v), y.load(v)); break;
            case 2: case 3: due("minutes(" + k + ", " + w + ")", x.minutes(k, w), y.minutes(k, w)); break;
            case 4:
                if (random.nextInt(4) == 0) {
                    due("unload()", x.unload(), y.unload());
                }
                break;
            case 5: due("soon(" + e + ", " + a + ", " + b + ")", x.soon(e, a, b), y.soon(e, a, b)); break;
            case 6: due("lasts(" + lo % 100 + ")", x.lasts(lo % 100), y.lasts(lo % 100)); break;
            case 7: due("turn(" + bits + ", " + v + ")", x.turn(bits, v), y.turn(bits, v)); break;
            case 8:
                due("share(" + lo + ", " + n + ", " + water + ", " + w + ")", x.share(lo, n, water, w),
                        y.share(lo, n, water, w));
                break;
            case 9: case 10:
                worths = random.nextBoolean() ? worths : worths / 50000 * 50000;
                v = random.nextBoolean() ? v : 1 + v / 20 * 10;
                due("thing(" + v + ", " + worths + ")", x.thing(v, worths), y.thing(v, worths));
                break;
            case 11:
                int c = below(400);
                due("cart(" + c + ", " + chances + ", " + w + ")", x.cart(c, chances, w), y.cart(c, chances, w));
                break;
            case 12:
                if (random.nextInt(4) == 0) {
                    due("unthing()", x.unthing(), y.unthing());
                }
                break;
            default: due("old(" + lo % 100 + ")", x.old(lo % 100), y.old(lo % 100)); break;
        }
    }

    private static void changeCall() {
        int draw = random.nextInt(8);
        if (draw == 6) {
            int p = point();
            int h = height();
            due("height(" + p + ", " + h + ")", x.height(p, h), y.height(p, h));
        } else if (draw < 2) {
            due("undo()", x.undo(), y.undo());
        } else if (draw == 2) {
            due("redo()", x.redo(), y.redo());
        } else if (draw != 3) {
            int b = below(3);
            int w = below(3);
            int v = below(4);
            due("bore(" + b + ", " + w + ", " + v + ")", x.bore(b, w, v), y.bore(b, w, v));
            if (random.nextInt(4) == 0) {
                due("undo()", x.undo(), y.undo());
            }
        } else {
            due("count(7)", x.count(7), y.count(7));
        }
    }

    private static void actCall() {
        int l = laying();
        int a = below(4);
        int v = random.nextBoolean() ? random.nextInt() : below(100);
        due("act(" + l + ", " + a + ", " + v + ")", x.act(l, a, v), y.act(l, a, v));
        due("count(8)", x.count(8), y.count(8));
        for (int i = 0; i <= y.trace.size(); i++) {
            due("trace(" + i + ")", x.trace(i), y.trace(i));
        }
    }

    private static void shelfCall() {
        int s = below(6);
        int o = below(6);
        int n = random.nextInt(15) == 0 ? wild() : random.nextInt(16);
        int i = below(16);
        int j = below(16);
        int sort = random.nextInt(3) == 0 ? below(5) : 0;
        long v = random.nextBoolean() ? random.nextLong() : random.nextInt(3);
        int l = random.nextBoolean() ? -1 : laying();
        int k = below(6);
        switch (random.nextInt(9)) {
            case 0: due("keep(" + s + ", " + l + ")", x.keep(s, l), y.keep(s, l)); break;
            case 1: due("row(" + s + ", " + sort + ", " + n + ")", x.row(s, sort, n), y.row(s, sort, n)); break;
            case 2: case 3: due("put(" + s + ", " + i + ", " + v + ")", x.put(s, i, v), y.put(s, i, v)); break;
            case 4: due("element(" + s + ", " + i + ")", x.element(s, i), y.element(s, i)); break;
            case 5: case 6:
                due("shift(" + s + ", " + i + ", " + o + ", " + j + ", " + n + ")", x.shift(s, i, o, j, n),
                        y.shift(s, i, o, j, n));
                break;
            case 7: due("taken(" + s + ", " + k + ")", x.taken(s, k), y.taken(s, k)); break;
            default:
                int from = 3 * (i / 3);
                l = laying();
                due("parts(" + l + ", " + s + ", " + from + ", " + n + ")", x.parts(l, s, from, n),
                        y.parts(l, s, from, n));
                break;
        }
    }
}
