/** Promises 11 to 18: layings, their parts, pressure, flow, judgement, bound. */
public final class LayingsTest {
    private static final Due D = new Due();

    public static void main(String[] args) {
        promise11();
        promise12();
        ordersOfPart();
        promise13();
        refusalsOfParts();
        promise14();
        promise15();
        promise16();
        promise17();
        promise18();
        D.end();
    }

    /** Points at 0, 10, 30 feet; ways 0: 0-1 (2 lengths), 1: 2-1 (5), 2: 0-2 (30); three engines. */
    static OverHill hill() {
        OverHill x = new OverHill();
        x.point(0);
        x.point(10);
        x.point(30);
        x.way(0, 1, 2);
        x.way(2, 1, 5);
        x.way(0, 2, 30);
        x.engine(100, 1);
        x.engine(50, 2);
        x.engine(70, 9);
        return x;
    }

    /** A laying of a kind from point 0; parts as sort, number, bore. */
    static int lay(OverHill x, int kind, int... parts) {
        return Made.lay(x, kind, 0, parts);
    }

    private static void promise11() {
        OverHill x = hill();
        int[][] bad = {{-1, 0}, {6, 0}, {0, -1}, {0, 3}};
        for (int[] of : bad) {
            D.due("laying(" + of[0] + ", " + of[1] + ")", x.laying(of[0], of[1]), OverHill.BAD);
        }
        for (int i = 0; i < 20; i++) {
            D.due("laying " + i, x.laying(i % 6, i % 3), i);
            D.due("its kind", x.of(i, 0), i % 6);
            D.due("its point", x.of(i, 2), i % 3);
        }
        D.due("a twenty-first", x.laying(0, 0), OverHill.FULL);
        D.due("BAD ahead of FULL", x.laying(0, 3), OverHill.BAD);
        D.due("20 layings", x.count(3), 20);
    }

    private static void promise12() {
        OverHill x = hill();
        for (int kind = 0; kind < 6; kind++) {
            x.laying(kind, 0);
            D.due("a tub for kind " + kind, x.part(kind, 2, -7, 99), kind == 3 ? 1 : OverHill.BAD);
        }
        int[][] bad = {{-1, 0, 0, 0}, {6, 0, 0, 0}, {0, -1, 0, 0}, {0, 3, 0, 0}, {0, 0, -1, 0}, {0, 0, 3, 0},
            {0, 1, -1, 0}, {0, 1, 3, 0}, {0, 1, 0, -1}, {0, 1, 0, 3}, {0, 1, 1, 0}};
        for (int[] of : bad) {
            D.due("part(" + of[0] + ", " + of[1] + ", " + of[2] + ", " + of[3] + ")",
                    x.part(of[0], of[1], of[2], of[3]), OverHill.BAD);
        }
        D.due("nothing came", x.of(0, 1), 0);
        D.due("an engine, any bore", x.part(0, 0, 1, 77), 1);
        D.due("a way", x.part(0, 1, 0, 2), 2);
        D.due("the next one the other way along", x.part(0, 1, 1, 0), 3);
        D.due("at point 2", x.of(0, 2), 2);
        D.due("back along it", x.part(0, 1, 1, 1), 4);
        D.due("at point 1", x.of(0, 2), 1);
        D.due("not from there", x.part(0, 1, 2, 1), OverHill.BAD);
    }

    private static void ordersOfPart() {
        OverHill x = hill();
        int l = lay(x, 0, 0, 0, 0);
        int other = x.laying(3, 0);
        D.due("it stands here", x.part(l, 0, 0, 0), OverHill.STATE);
        D.due("it stands there", x.part(other, 0, 0, 0), OverHill.STATE);
        for (int i = 1; i < 24; i++) {
            D.due("way " + i, x.part(l, 1, 0, 0), i + 1);
        }
        D.due("a twenty-fifth way", x.part(l, 1, 0, 0), OverHill.FULL);
        D.due("a twenty-fifth engine", x.part(l, 0, 1, 0), OverHill.FULL);
        D.due("STATE ahead of FULL", x.part(l, 0, 0, 0), OverHill.STATE);
        D.due("BAD ahead of FULL", x.part(l, 1, 1, 3), OverHill.BAD);
        D.due("24 parts", x.of(l, 1), 24);
        D.due("what was FULL stands nowhere", x.part(other, 0, 1, 0), 1);
    }

    private static void bytes(OverHill x, int shelf, int... row) {
        x.row(shelf, 0, row.length);
        for (int i = 0; i < row.length; i++) {
            x.put(shelf, i, row[i]);
        }
    }

    private static void promise13() {
        OverHill x = hill();
        int l = x.laying(3, 0);
        bytes(x, 0, 9, 0, 0, 5, 1, 0, 1, 2, 77, -3, 1, 1, 2, 1, 1);
        D.due("three from place 1 on", x.parts(l, 0, 1, 2), 2);
        D.due("an engine", x.of(l, 100), 0);
        D.due("a way's bore", x.of(l, 301), 1);
        D.due("a tub and a way, then it ends within a three", x.parts(l, 0, 7, 3), 2);
        D.due("4 parts", x.of(l, 1), 4);
        D.due("at point 2", x.of(l, 2), 2);
        D.due("an engine that stands may not come", x.parts(l, 0, 1, 1), 0);
        bytes(x, 1, 1, 2, 0, 1, 0, 0, 0, 2, 0, 1, 2, 0, 1, 0, 0);
        D.due("one that may not come ends it", x.parts(l, 1, 0, 5), 3);
        D.due("those ahead came", x.of(l, 1), 7);
        D.due("the fifth may come now", x.parts(l, 1, 12, 1), 1);
        D.due("and the fourth behind it", x.parts(l, 1, 9, 1), 1);
        D.due("back to point 0", x.part(l, 1, 2, 0), 10);
        for (int i = 10; i < 23; i++) {
            x.part(l, 1, 0, 0);
        }
        bytes(x, 1, 2, 0, 0, 2, 0, 0);
        D.due("FULL ends it", x.parts(l, 1, 0, 2), 1);
        D.due("24 parts", x.of(l, 1), 24);
    }

    private static void refusalsOfParts() {
        OverHill x = hill();
        int l = x.laying(1, 0);
        bytes(x, 0, 1, 0, 0);
        int[][] bad = {{-1, 0, 1}, {1, 0, 1}, {l, -1, 1}, {l, 6, 1}, {l, 0, 0}, {l, 0, 21}, {l, 0, -1}};
        for (int[] of : bad) {
            D.due("parts(" + of[0] + ", " + of[1] + ", 0, " + of[2] + ")", x.parts(of[0], of[1], 0, of[2]),
                    OverHill.BAD);
        }
        D.due("nothing there", x.parts(l, 5, 0, 1), 0);
        int[] places = {-1, -3, Integer.MIN_VALUE, 1, 2, 3, 4, Integer.MAX_VALUE};
        for (int place : places) {
            D.due("no three at " + place, x.parts(l, 0, place, 20), 0);
        }
        for (int sort = 1; sort < 5; sort++) {
            x.row(1, sort, 6);
            D.due("a row of sort " + sort, x.parts(l, 1, 0, 1), -12);
        }
        x.keep(2, l);
        D.due("a laying", x.parts(l, 2, 0, 1), -12);
        D.due("BAD ahead of -12", x.parts(l, 2, 0, 0), OverHill.BAD);
        D.due("no parts came", x.of(l, 1), 0);
        D.due("one comes, the row ends", x.parts(l, 0, 0, 20), 1);
    }

    private static void promise14() {
        OverHill x = hill();
        int l = lay(x, 3, 2, 5, 5, 0, 2, 1, 1, 0, 2, 1, 1, 1, 1, 2, 2);
        int[][] answers = {{0, 3}, {1, 5}, {2, 0}, {3, 0}, {4, 5}, {5, 32}, {100, 2}, {101, 0}, {102, 1}, {104, 1},
            {200, -1}, {201, 2}, {202, 0}, {203, 1}, {204, 2}, {300, -1}, {301, -1}, {302, 2}, {303, 1}};
        for (int[] of : answers) {
            D.due("of(l, " + of[0] + ")", x.of(l, of[0]), of[1]);
        }
        int[] bad = {-1, 6, 99, 105, 199, 205, 305, 399, 400, 500, 1000, Integer.MAX_VALUE, Integer.MIN_VALUE};
        for (int what : bad) {
            D.due("of(l, " + what + ")", x.of(l, what), OverHill.BAD);
        }
        D.due("no such laying", x.of(1, 0), OverHill.BAD);
        D.due("laying -1", x.of(-1, 0), OverHill.BAD);
        int two = lay(x, 2, 1, 0, 0, 0, 0, 0, 1, 1, 0);
        D.due("in two lines all of it", x.of(two, 3), 14);
        int joined = lay(x, 4, 1, 0, 0, 0, 1, 0, 1, 1, 1, 1, 2, 1);
        D.due("ahead of the engine in one", x.of(joined, 3), 2);
        D.due("behind it in two", x.of(joined, 4), 70);
        int alone = lay(x, 4, 1, 0, 0, 1, 1, 0);
        D.due("without an engine in two", x.of(alone, 3), 14);
        OverHill y = hill();
        D.due("all ahead of the engine", y.of(lay(y, 4, 1, 0, 0, 0, 0, 0), 3), 2);
        int told = lay(x, 5, 1, 0, 0);
        D.due("told in one", x.of(told, 3), 2);
    }

    private static void promise15() {
        OverHill x = hill();
        int l = lay(x, 0, 0, 0, 0, 1, 0, 0, 1, 1, 1, 1, 2, 2);
        int[][] answers = {{0, 100, 9000}, {1, 100, 8550}, {2, 100, 7640}, {3, 100, 8630}, {0, 0, 10000},
            {1, 19, 9378}, {3, 600, 1780}};
        for (int[] of : answers) {
            D.due("pressure(l, " + of[0] + ", " + of[1] + ")", x.pressure(l, of[0], of[1]), of[2]);
        }
        int[][] bad = {{-1, 0, 0}, {1, 0, 0}, {l, -1, 0}, {l, 4, 0}, {l, 0, -1}, {l, 0, 601}};
        for (int[] of : bad) {
            D.due("pressure of what is not there", x.pressure(of[0], of[1], of[2]), OverHill.VOID);
        }
        x.height(1, 0);
        D.due("heights are those of now", x.pressure(l, 1, 100), 8980);
        int tubbed = lay(x, 3, 0, 1, 0, 2, 0, 0, 2, 0, 0, 1, 2, 0);
        D.due("behind a tub", x.pressure(tubbed, 1, 0), 0);
        D.due("behind two tubs and a way", x.pressure(tubbed, 3, 10), -30 - 30 * 43);
        int two = lay(x, 2, 1, 2, 0);
        D.due("18 in two lines", x.pressure(two, 0, 18), -1290);
        D.due("19 in two lines: each with 10", x.pressure(two, 0, 19), -1320);
        D.due("600 in two lines", x.pressure(two, 0, 600), -1290 - 900);
        int joined = lay(x, 4, 1, 0, 0, 0, 2, 0, 1, 1, 0);
        D.due("one line ahead of the engine", x.pressure(joined, 0, 20), -4);
        D.due("two behind it", x.pressure(joined, 2, 20), -4 + 9800 - 5 - 30 * 43);
    }

    private static void promise16() {
        OverHill x = hill();
        int l = lay(x, 0, 0, 0, 0, 1, 0, 0, 1, 1, 1);
        // At the end there is 8710 - 10 f - 7 (f / 10).
        int[] needs = {0, 600, 2290, 600, 2291, 599, 6000, 253, 8710, 0, 8711, OverHill.NOT, 99999, OverHill.NOT};
        for (int i = 0; i < needs.length; i += 2) {
            D.due("flow(l, " + needs[i] + ")", x.flow(l, needs[i]), needs[i + 1]);
        }
        int[][] bad = {{-1, 0}, {1, 0}, {l, -1}, {l, 100000}};
        for (int[] of : bad) {
            D.due("flow(" + of[0] + ", " + of[1] + ")", x.flow(of[0], of[1]), OverHill.BAD);
        }
        int empty = x.laying(1, 0);
        D.due("without parts", x.flow(empty, 0), 600);
        D.due("without parts, 1 is wanted", x.flow(empty, 1), OverHill.NOT);
        int up = lay(x, 3, 1, 0, 0, 0, 1, 0);
        D.due("an engine starves over 10 feet", x.flow(up, 0), OverHill.NOT);
        x.height(1, 0);
        D.due("on the flat till 2 lengths lose", x.flow(up, 0), 9);
        int tubbed = lay(x, 3, 0, 2, 0, 1, 2, 0, 2, 0, 0, 1, 2, 0);
        // Ahead of the tub 10000 - 10 f - 30 (f / 10) - 1290; behind it 1290 - 30 (f / 10).
        D.due("the way down lacks", x.flow(tubbed, 0), 439);
        D.due("it lacks more", x.flow(tubbed, 1000), 99);
        x.height(2, 200);
        D.due("the tub starves", x.flow(tubbed, 0), 109);
    }

    private static void promise17() {
        OverHill x = hill();
        int l = lay(x, 0, 0, 0, 0, 1, 0, 0, 1, 1, 1);
        D.due("all is well", x.judge(l, 100, 7640), OverHill.NOT);
        D.due("it lacks 1", x.judge(l, 100, 7641), 100);
        x.bore(0, 0, 9000);
        D.due("it bears what is ahead", x.judge(l, 100, 0), OverHill.NOT);
        D.due("one flow less bursts it", x.judge(l, 99, 0), 1);
        x.bore(0, 0, 20000);
        x.bore(1, 0, 8549);
        D.due("8550 ahead of it", x.judge(l, 100, 0), 2);
        D.due("bursting goes ahead of lacking", x.judge(l, 100, 99999), 2);
        int[][] bad = {{-1, 0, 0}, {1, 0, 0}, {l, -1, 0}, {l, 601, 0}, {l, 0, -1}, {l, 0, 100000}};
        for (int[] of : bad) {
            D.due("judge of what is not there", x.judge(of[0], of[1], of[2]), OverHill.BAD);
        }
        int down = x.laying(3, 2);
        x.part(down, 1, 2, 2);
        x.bore(2, 0, 1290);
        D.due("1290 behind it", x.judge(down, 0, 0), OverHill.NOT);
        x.bore(2, 0, 1289);
        D.due("1290 behind it bursts", x.judge(down, 0, 0), 0);
        x.bore(2, 0, 20000);
        D.due("a way that loses starves nothing itself", x.judge(down, 600, 0), 100);
        x.part(down, 0, 1, 0);
        D.due("an engine with 0 ahead", x.judge(down, 430, 0), OverHill.NOT);
        D.due("an engine that starves", x.judge(down, 440, 0), 1);
        int tubbed = lay(x, 3, 2, 0, 0, 1, 0, 0, 2, 0, 0);
        D.due("a tub that starves, not the first", x.judge(tubbed, 0, 0), 2);
        int empty = x.laying(0, 0);
        D.due("no parts", x.judge(empty, 600, 0), OverHill.NOT);
        D.due("no parts lack", x.judge(empty, 600, 1), 100);
    }

    private static void promise18() {
        OverHill x = hill();
        int l = lay(x, 0, 0, 0, 0, 1, 0, 0, 1, 1, 1);
        D.due("nothing bursts", x.bound(l, 6000), 253);
        x.bore(0, 0, 8000);
        D.due("from 200 on nothing bursts", x.bound(l, 0), 600);
        D.due("253 is behind 200", x.bound(l, 6000), 253);
        D.due("159 is ahead of 200", x.bound(l, 7000), OverHill.NOT);
        D.due("flow does not ask", x.flow(l, 7000), 159);
        D.due("none comes hard enough", x.bound(l, 9000), OverHill.NOT);
        int[][] bad = {{-1, 0}, {1, 0}, {l, -1}, {l, 100000}};
        for (int[] of : bad) {
            D.due("bound(" + of[0] + ", " + of[1] + ")", x.bound(of[0], of[1]), OverHill.BAD);
        }
        int empty = x.laying(2, 1);
        D.due("no parts", x.bound(empty, 0), 600);
        D.due("no parts lack", x.bound(empty, 1), OverHill.NOT);
    }
}
