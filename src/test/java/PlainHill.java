import java.util.ArrayList;
import java.util.List;

/**
 * The document told once more, as plainly as it stands there and with no thought of speed: all
 * flows from 600 to 0 are asked, all bores and places tried, acts led by Java's own classes.
 * RandomRunsTest lays its answers beside those of OverHill.
 */
final class PlainHill {
    static final int BAD = -1, NOT = -2, FULL = -3, BIG = -4, STATE = -5, VOID = -2000000000;

    // ---- acts, by Java's own rules

    interface Lifts {
        int n();

        void ran(int body);

        default int lifts(int x) {
            ran(1);
            return x + n();
        }
    }

    interface Tells {
        void ran(int body);

        int loses(int x);

        int bears(int x);

        default int tells(int x) {
            ran(2);
            return loses(x) - bears(1);
        }
    }

    static class Laying implements Lifts, Tells {
        final PlainHill hill;
        final int number;
        final int kind;
        final int start;
        final List<int[]> parts = new ArrayList<>();

        Laying(PlainHill hill, int number, int kind, int start) {
            this.hill = hill;
            this.number = number;
            this.kind = kind;
            this.start = start;
        }

        @Override public int n() {
            return number;
        }

        @Override public void ran(int body) {
            hill.trace.add(body);
        }

        @Override public int loses(int x) {
            ran(10);
            return lifts(x) * 2;
        }

        @Override public int bears(int x) {
            ran(11);
            return x ^ n();
        }
    }

    static class Line extends Laying {
        Line(PlainHill hill, int number, int kind, int start) {
            super(hill, number, kind, start);
        }

        @Override public int bears(int x) {
            ran(20);
            return super.bears(x) + parts.size();
        }
    }

    static class Two extends Laying {
        Two(PlainHill hill, int number, int kind, int start) {
            super(hill, number, kind, start);
        }

        @Override public int loses(int x) {
            ran(30);
            return -super.loses(x);
        }
    }

    static final class Tubbed extends Line {
        Tubbed(PlainHill hill, int number, int kind, int start) {
            super(hill, number, kind, start);
        }

        @Override public int lifts(int x) {
            ran(40);
            return super.lifts(x) * 3;
        }

        @Override public int bears(int x) {
            ran(41);
            return super.bears(x + 1);
        }
    }

    static final class Joined extends Two {
        Joined(PlainHill hill, int number, int kind, int start) {
            super(hill, number, kind, start);
        }

        @Override public int tells(int x) {
            ran(50);
            return super.tells(x) ^ 5;
        }

        @Override public int loses(int x) {
            ran(51);
            return super.loses(x) + bears(2);
        }
    }

    static final class Told extends Laying {
        Told(PlainHill hill, int number, int kind, int start) {
            super(hill, number, kind, start);
        }

        @Override public int bears(int x) {
            ran(60);
            return super.bears(x) - lifts(1);
        }
    }

    // ---- what there is

    final List<Integer> heights = new ArrayList<>();
    final List<int[]> ways = new ArrayList<>();
    final int[][] bores = {{20000, 30, 0}, {20000, 30, 0}, {20000, 30, 0}};
    final List<int[]> engines = new ArrayList<>();
    final int[][] boreTables = new int[3][];
    final int[][] engineTables = new int[6][];
    final StringBuilder tape = new StringBuilder();
    final List<Laying> layings = new ArrayList<>();
    final List<Integer> loads = new ArrayList<>();
    final List<int[]> things = new ArrayList<>();
    final List<int[]> undoable = new ArrayList<>();
    final List<int[]> redoable = new ArrayList<>();
    final List<Integer> trace = new ArrayList<>();
    final Object[] shelves = new Object[6];

    private boolean in(long v, long least, long most) {
        return least <= v && v <= most;
    }

    private boolean isLaying(int laying) {
        return in(laying, 0, layings.size() - 1);
    }

    private boolean isNeed(int need) {
        return in(need, 0, 99999);
    }

    private boolean isFlow(int flow) {
        return in(flow, 0, 600);
    }

    // ---- ground, hose, engines

    int point(int height) {
        if (!in(height, 0, 999)) return BAD;
        if (heights.size() == 12) return FULL;
        heights.add(height);
        return heights.size() - 1;
    }

    /** A setting: 0 .. 2 of bores (which, what), 3 a height. */
    private int setting(int sort, int which, int v, boolean set) {
        int was = sort == 3 ? heights.get(which) : bores[which][sort];
        if (set && sort == 3) heights.set(which, v);
        if (set && sort != 3) bores[which][sort] = v;
        return was;
    }

    private int become(int sort, int which, int v) {
        int was = setting(sort, which, v, true);
        if (was != v) {
            undoable.add(new int[] {sort, which, was, v});
            redoable.clear();
            if (undoable.size() > 40) undoable.remove(0);
        }
        return was;
    }

    int height(int point, int v) {
        if (!in(point, 0, heights.size() - 1) || !in(v, 0, 999)) return BAD;
        return become(3, point, v);
    }

    int way(int from, int to, int lengths) {
        int points = heights.size();
        if (!in(from, 0, points - 1) || !in(to, 0, points - 1) || from == to || !in(lengths, 1, 30)) return BAD;
        if (ways.size() == 20) return FULL;
        ways.add(new int[] {from, to, lengths});
        return ways.size() - 1;
    }

    int bore(int bore, int what, int v) {
        if (!in(bore, 0, 2) || !in(what, 0, 2) || !in(v, 0, what == 0 ? 99999 : 99)) return BAD;
        return become(what, bore, v);
    }

    int engine(int fuel, int speed) {
        if (!in(fuel, 0, 999) || !in(speed, 1, 9)) return BAD;
        if (engines.size() == 6) return FULL;
        engines.add(new int[] {fuel, speed, 0});
        return engines.size() - 1;
    }

    int feed(int n, int v) {
        if (!in(n, 1, 4)) return BAD;
        if (tape.length() + n > 120) return FULL;
        for (int i = 0; i < n; i++) tape.append((char) (v >>> 8 * i & 255));
        return tape.length();
    }

    int table() {
        String text = tape.toString();
        tape.setLength(0);
        int fault = faultOf(text);
        if (fault >= 0) return -100 - fault;
        String[] numbers = text.substring(3).split(",");
        int[] told = new int[numbers.length];
        for (int i = 0; i < told.length; i++) told[i] = Integer.parseInt(numbers[i]);
        (text.charAt(0) == 'b' ? boreTables : engineTables)[text.charAt(1) - '0'] = told;
        return told.length;
    }

    private int faultOf(String text) {
        if (text.isEmpty() || "be".indexOf(text.charAt(0)) < 0) return 0;
        boolean ofBore = text.charAt(0) == 'b';
        int there = ofBore ? 3 : engines.size();
        if (text.length() < 2 || !in(text.charAt(1), '0', '0' + there - 1)) return 1;
        if (text.length() < 3 || text.charAt(2) != ':') return 2;
        int ahead = -1;
        int numbers = 0;
        int at = 3;
        while (true) {
            int end = at;
            while (end < text.length() && end < at + 5 && Character.isDigit(text.charAt(end))) end++;
            if (end == at) return at;
            int v = Integer.parseInt(text.substring(at, end));
            if (ahead >= 0 && (ofBore && v < ahead || !ofBore && v > ahead)) return at;
            ahead = v;
            numbers++;
            if (end == text.length()) return -1;
            if (text.charAt(end) != ',' || numbers == 13) return end;
            at = end + 1;
        }
    }

    private int between(int[] table, int flow) {
        int i = flow / 50;
        if (i >= table.length - 1) return table[table.length - 1];
        int r = flow % 50;
        return (table[i] * (50 - r) + table[i + 1] * r) / 50;
    }

    private int lost(int bore, int flow) {
        int v = boreTables[bore] == null ? flow / 10 : between(boreTables[bore], flow);
        return v * (100 + bores[bore][2]) / 100;
    }

    private int lifted(int engine, int flow) {
        return engineTables[engine] == null ? Math.max(0, 10000 - 10 * flow) : between(engineTables[engine], flow);
    }

    int loses(int bore, int flow) {
        return in(bore, 0, 2) && isFlow(flow) ? lost(bore, flow) : BAD;
    }

    int lifts(int engine, int flow) {
        return in(engine, 0, engines.size() - 1) && isFlow(flow) ? lifted(engine, flow) : BAD;
    }

    // ---- layings; a part is sort, number, bore, the point ahead, the point behind

    int laying(int kind, int point) {
        if (!in(kind, 0, 5) || !in(point, 0, heights.size() - 1)) return BAD;
        int n = layings.size();
        if (n == 20) return FULL;
        Laying made;
        switch (kind) {
            case 0: made = new Laying(this, n, kind, point); break;
            case 1: made = new Line(this, n, kind, point); break;
            case 2: made = new Two(this, n, kind, point); break;
            case 3: made = new Tubbed(this, n, kind, point); break;
            case 4: made = new Joined(this, n, kind, point); break;
            default: made = new Told(this, n, kind, point); break;
        }
        layings.add(made);
        return n;
    }

    private int end(Laying l) {
        return l.parts.isEmpty() ? l.start : l.parts.get(l.parts.size() - 1)[4];
    }

    int part(int laying, int sort, int number, int bore) {
        if (!isLaying(laying) || !in(sort, 0, 2)) return BAD;
        Laying l = layings.get(laying);
        int at = end(l);
        int to = at;
        if (sort == 0) {
            if (!in(number, 0, engines.size() - 1)) return BAD;
            if (engines.get(number)[2] == 1) return STATE;
        } else if (sort == 1) {
            if (!in(number, 0, ways.size() - 1) || !in(bore, 0, 2)) return BAD;
            int[] way = ways.get(number);
            if (way[0] != at && way[1] != at) return BAD;
            to = way[0] == at ? way[1] : way[0];
        } else if (!(l instanceof Tubbed)) {
            return BAD;
        }
        if (l.parts.size() == 24) return FULL;
        if (sort == 0) engines.get(number)[2] = 1;
        l.parts.add(new int[] {sort, sort == 2 ? -1 : number, sort == 1 ? bore : -1, at, to});
        return l.parts.size();
    }

    int parts(int laying, int shelf, int i, int n) {
        if (!isLaying(laying) || !in(shelf, 0, 5) || !in(n, 1, 20)) return BAD;
        if (shelves[shelf] == null) return 0;
        if (!(shelves[shelf] instanceof byte[])) return -12;
        byte[] row = (byte[]) shelves[shelf];
        for (int came = 0; came < n; came++) {
            try {
                int at = i + 3 * came;
                if (part(laying, row[at], row[at + 1], row[at + 2]) < 0) return came;
            } catch (ArrayIndexOutOfBoundsException e) {
                return came;
            }
        }
        return n;
    }

    private boolean two(Laying l, List<int[]> parts, int part) {
        int last = -1;
        for (int i = 0; i < parts.size(); i++) if (parts.get(i)[0] == 0) last = i;
        return l.kind == 2 || l.kind == 4 && part > last;
    }

    private int[] hose(Laying l, List<int[]> parts) {
        int[] hose = new int[3];
        for (int i = 0; i < parts.size(); i++) {
            int[] p = parts.get(i);
            if (p[0] == 1) hose[p[2]] += ways.get(p[1])[2] * (two(l, parts, i) ? 2 : 1);
        }
        return hose;
    }

    int of(int laying, int what) {
        if (!isLaying(laying)) return BAD;
        Laying l = layings.get(laying);
        if (what == 0) return l.kind;
        if (what == 1) return l.parts.size();
        if (what == 2) return end(l);
        if (in(what, 3, 5)) return hose(l, l.parts)[what - 3];
        for (int which = 1; which <= 3; which++) {
            int part = what - 100 * which;
            if (in(part, 0, l.parts.size() - 1)) return l.parts.get(part)[which - 1];
        }
        return BAD;
    }

    /** Pressures behind the parts; a way of which one line is left (single) takes all. */
    private int[] pressures(Laying l, List<int[]> parts, int flow, int single) {
        int[] behind = new int[parts.size()];
        int p = 0;
        for (int i = 0; i < parts.size(); i++) {
            int[] part = parts.get(i);
            if (part[0] == 0) {
                p += lifted(part[1], flow);
            } else if (part[0] == 1) {
                int f = two(l, parts, i) && i != single ? (flow + 1) / 2 : flow;
                p -= ways.get(part[1])[2] * lost(part[2], f);
                p -= 43 * (heights.get(part[4]) - heights.get(part[3]));
            } else {
                p = 0;
            }
            behind[i] = p;
        }
        return behind;
    }

    private int judged(Laying l, List<int[]> parts, int flow, int need, int single, boolean bursts) {
        int[] behind = pressures(l, parts, flow, single);
        for (int i = 0; i < parts.size(); i++) {
            int ahead = i == 0 ? 0 : behind[i - 1];
            int[] part = parts.get(i);
            if (part[0] != 1 && ahead < 0) return i;
            if (bursts && part[0] == 1) {
                int most = bores[part[2]][0];
                if (ahead > most || behind[i] > most) return i;
            }
        }
        int end = parts.isEmpty() ? 0 : behind[parts.size() - 1];
        return end < need ? 100 : NOT;
    }

    private int greatest(Laying l, List<int[]> parts, int need, int single, boolean bursts) {
        for (int flow = 600; flow >= 0; flow--) {
            if (judged(l, parts, flow, need, single, bursts) == NOT) return flow;
        }
        return NOT;
    }

    int pressure(int laying, int part, int flow) {
        if (!isLaying(laying) || !isFlow(flow)) return VOID;
        Laying l = layings.get(laying);
        if (!in(part, 0, l.parts.size() - 1)) return VOID;
        return pressures(l, l.parts, flow, -1)[part];
    }

    int flow(int laying, int need) {
        if (!isLaying(laying) || !isNeed(need)) return BAD;
        Laying l = layings.get(laying);
        return greatest(l, l.parts, need, -1, false);
    }

    int judge(int laying, int flow, int need) {
        if (!isLaying(laying) || !isFlow(flow) || !isNeed(need)) return BAD;
        Laying l = layings.get(laying);
        return judged(l, l.parts, flow, need, -1, true);
    }

    int bound(int laying, int need) {
        if (!isLaying(laying) || !isNeed(need)) return BAD;
        Laying l = layings.get(laying);
        return greatest(l, l.parts, need, -1, true);
    }

    // ---- the most

    int most(int laying, int need, int what) {
        if (!isLaying(laying) || !isNeed(need) || !in(what, 0, 2)) return BAD;
        Laying l = layings.get(laying);
        List<int[]> wayParts = new ArrayList<>();
        List<int[]> engineParts = new ArrayList<>();
        for (int[] p : l.parts) {
            if (p[0] == 1) wayParts.add(p);
            if (p[0] == 0) engineParts.add(p);
        }
        int w = wayParts.size();
        int e = engineParts.size();
        if (w > 6 || e > 4) return BIG;
        int best = NOT;
        int bestBores = 0;
        int bestPlaces = 0;
        for (int byBores = 0; byBores < (int) Math.pow(3, w); byBores++) {
            for (int places = 0; places < (int) Math.pow(10, Math.max(0, e)); places++) {
                int[] at = digits(places, e, 10);
                if (!inOrder(at, w)) continue;
                int[] bore = digits(byBores, w, 3);
                List<int[]> parts = laid(l, wayParts, engineParts, bore, at);
                if (!stored(hose(l, parts))) continue;
                for (int flow = 600; flow > best && flow >= 0; flow--) {
                    if (judged(l, parts, flow, need, -1, false) == NOT) {
                        best = flow;
                        bestBores = decimal(bore);
                        bestPlaces = places;
                    }
                }
            }
        }
        return best == NOT || what == 0 ? best : what == 1 ? bestBores : bestPlaces;
    }

    private int[] digits(int number, int n, int base) {
        int[] digits = new int[n];
        for (int i = n - 1; i >= 0; i--) {
            digits[i] = number % base;
            number /= base;
        }
        return digits;
    }

    private int decimal(int[] digits) {
        int number = 0;
        for (int d : digits) number = number * 10 + d;
        return number;
    }

    private boolean inOrder(int[] at, int ways) {
        for (int i = 0; i < at.length; i++) {
            if (at[i] >= ways || i == 0 && at[i] != 0 || i > 0 && at[i] <= at[i - 1]) return false;
        }
        return true;
    }

    private boolean stored(int[] hose) {
        for (int b = 0; b < 3; b++) if (hose[b] > bores[b][1]) return false;
        return true;
    }

    private List<int[]> laid(Laying l, List<int[]> wayParts, List<int[]> engineParts, int[] bore, int[] at) {
        List<int[]> parts = new ArrayList<>();
        int way = 0;
        int next = 0;
        for (int i = 0; i < l.parts.size(); i++) {
            int[] p = l.parts.get(i);
            if (p[0] == 2) parts.add(p);
            if (p[0] != 1) continue;
            if (next < at.length && at[next] == way) parts.add(engineParts.get(next++));
            parts.add(new int[] {1, p[1], bore[way], p[3], p[4]});
            way++;
        }
        return parts;
    }

    int worth(int laying, int part, int need) {
        if (!isLaying(laying) || !isNeed(need)) return VOID;
        Laying l = layings.get(laying);
        if (!in(part, 0, l.parts.size() - 1) || l.parts.get(part)[0] != 0) return VOID;
        List<int[]> without = new ArrayList<>(l.parts);
        without.remove(part);
        return Math.max(0, greatest(l, l.parts, need, -1, false)) - Math.max(0, greatest(l, without, need, -1, false));
    }

    int helps(int laying, int need, int what) {
        if (!isLaying(laying) || !isNeed(need) || !in(what, 0, 1)) return BAD;
        Laying l = layings.get(laying);
        if (l.parts.isEmpty()) return BAD;
        int best = NOT;
        int where = NOT;
        for (int i = 0; i < l.parts.size(); i++) {
            List<int[]> with = new ArrayList<>(l.parts);
            int point = l.parts.get(i)[3];
            with.add(i, new int[] {2, -1, -1, point, point});
            int flow = greatest(l, with, need, -1, false);
            if (flow > best) {
                best = flow;
                where = i;
            }
        }
        return what == 0 ? where : best;
    }

    private boolean isWayPart(int laying, int part) {
        return isLaying(laying) && in(part, 0, layings.get(laying).parts.size() - 1)
                && layings.get(laying).parts.get(part)[0] == 1;
    }

    int goes(int laying, int part, int need) {
        if (!isWayPart(laying, part) || !isNeed(need)) return BAD;
        Laying l = layings.get(laying);
        if (!two(l, l.parts, part)) return 0;
        return Math.max(0, greatest(l, l.parts, need, part, false));
    }

    int changed(int laying, int part) {
        if (!isWayPart(laying, part)) return BAD;
        Laying l = layings.get(laying);
        int lengths = ways.get(l.parts.get(part)[1])[2];
        return two(l, l.parts, part) ? 0 : (int) Math.ceil(lengths / 5.0) + 1;
    }

    // ---- minutes, fuel, shares

    int load(int minutes) {
        if (!in(minutes, 1, 99)) return BAD;
        if (loads.size() == 8) return FULL;
        loads.add(minutes);
        return loads.size();
    }

    int minutes(int k, int what) {
        if (!in(k, 1, 4) || !in(what, 0, 1)) return BAD;
        if (loads.isEmpty()) return STATE;
        int least = Integer.MAX_VALUE;
        int by = 0;
        for (int number = 0; number < (int) Math.pow(k, loads.size()); number++) {
            int[] hands = digits(number, loads.size(), k);
            int[] sums = new int[k];
            for (int i = 0; i < hands.length; i++) sums[hands[i]] += loads.get(i);
            int longest = 0;
            for (int sum : sums) longest = Math.max(longest, sum);
            if (longest < least) {
                least = longest;
                by = decimal(hands);
            }
        }
        return what == 0 ? least : by;
    }

    int unload() {
        int were = loads.size();
        loads.clear();
        return were;
    }

    int soon(int engine, int from, int to) {
        int points = heights.size();
        if (!in(engine, 0, engines.size() - 1) || !in(from, 0, points - 1) || !in(to, 0, points - 1)) return BAD;
        int[][] d = new int[points][points];
        for (int[] row : d) java.util.Arrays.fill(row, 1 << 20);
        for (int i = 0; i < points; i++) d[i][i] = 0;
        for (int[] way : ways) {
            int takes = (int) Math.ceil((double) way[2] / engines.get(engine)[1]);
            d[way[0]][way[1]] = Math.min(d[way[0]][way[1]], takes);
            d[way[1]][way[0]] = Math.min(d[way[1]][way[0]], takes);
        }
        for (int k = 0; k < points; k++)
            for (int i = 0; i < points; i++)
                for (int j = 0; j < points; j++) d[i][j] = Math.min(d[i][j], d[i][k] + d[k][j]);
        return d[from][to] == 1 << 20 ? NOT : d[from][to];
    }

    int lasts(int laying) {
        if (!isLaying(laying)) return BAD;
        int least = 999;
        for (int[] p : layings.get(laying).parts) if (p[0] == 0) least = Math.min(least, engines.get(p[1])[0]);
        return least;
    }

    int turn(int bits, int b) {
        if (!in(bits, 1, (1 << engines.size()) - 1) || !in(b, 0, 99)) return BAD;
        int sum = b;
        for (int i = 0; i < engines.size(); i++) if ((bits & 1 << i) != 0) sum += engines.get(i)[0] - b;
        return sum;
    }

    int share(int lo, int need, int water, int what) {
        if (lo < 0 || !isLaying(lo / 100) || !isLaying(lo % 100) || lo / 100 == lo % 100) return BAD;
        if (!isNeed(need) || !in(water, 0, 600) || !in(what, 0, 1)) return BAD;
        int one = Math.max(0, flow(lo / 100, need));
        int other = Math.max(0, flow(lo % 100, need));
        int bestF = 0;
        int bestG = 0;
        for (int f = 0; f <= one; f++) {
            for (int g = 0; g <= other && f + g <= water; g++) {
                int lesser = Math.min(f, g) - Math.min(bestF, bestG);
                int sum = f + g - bestF - bestG;
                if (lesser > 0 || lesser == 0 && (sum > 0 || sum == 0 && f > bestF)) {
                    bestF = f;
                    bestG = g;
                }
            }
        }
        return what == 0 ? bestF : bestG;
    }

    int thing(int weight, int worths) {
        if (!in(weight, 1, 99) || !in(worths, 0, 999999)) return BAD;
        if (things.size() == 9) return FULL;
        things.add(new int[] {weight, worths});
        return things.size();
    }

    int cart(int most, int chances, int what) {
        if (most < 0 || !in(chances, 0, 101 * 101 * 101 - 1) || !in(what, 0, 1)) return BAD;
        if (things.isEmpty()) return STATE;
        int[] chance = digits(chances, 3, 101);
        int[] best = {-1, 0, 0};
        for (int set = 0; set < 1 << things.size(); set++) {
            int weight = 0;
            int[] sums = new int[3];
            for (int i = 0; i < things.size(); i++) {
                if ((set >> i & 1) == 0) continue;
                weight += things.get(i)[0];
                int[] worths = digits(things.get(i)[1], 3, 100);
                for (int fire = 0; fire < 3; fire++) sums[fire] += worths[fire];
            }
            int sum = 0;
            for (int fire = 0; fire < 3; fire++) sum += chance[fire] * sums[fire];
            if (weight <= most && (sum > best[0] || sum == best[0] && weight < best[1])) {
                best = new int[] {sum, weight, set};
            }
        }
        return what == 0 ? best[0] : best[2];
    }

    int unthing() {
        int were = things.size();
        things.clear();
        return were;
    }

    int old(int laying) {
        if (!isLaying(laying)) return BAD;
        long chance = 1000000;
        int[] hose = hose(layings.get(laying), layings.get(laying).parts);
        for (int b = 0; b < 3; b++)
            for (int i = 0; i < hose[b]; i++) chance = chance * Math.max(0, 1000 - 10 * bores[b][2]) / 1000;
        return (int) chance;
    }

    int undo() {
        if (undoable.isEmpty()) return STATE;
        int[] change = undoable.remove(undoable.size() - 1);
        setting(change[0], change[1], change[2], true);
        redoable.add(change);
        return undoable.size();
    }

    int redo() {
        if (redoable.isEmpty()) return STATE;
        int[] change = redoable.remove(redoable.size() - 1);
        setting(change[0], change[1], change[3], true);
        undoable.add(change);
        return redoable.size();
    }

    // ---- acts, shelves

    int act(int laying, int act, int x) {
        trace.clear();
        if (!isLaying(laying) || !in(act, 0, 3)) return 0;
        Laying l = layings.get(laying);
        return act == 0 ? l.lifts(x) : act == 1 ? l.loses(x) : act == 2 ? l.bears(x) : l.tells(x);
    }

    int trace(int i) {
        return in(i, 0, Math.min(24, trace.size()) - 1) ? trace.get(i) : BAD;
    }

    int keep(int shelf, int laying) {
        if (!in(shelf, 0, 5) || laying != -1 && !isLaying(laying)) return BAD;
        shelves[shelf] = laying == -1 ? null : layings.get(laying);
        return 1;
    }

    int row(int shelf, int sort, int n) {
        if (!in(shelf, 0, 5) || !in(sort, 0, 4) || n > 60) return BAD;
        if (n < 0) return -14;
        shelves[shelf] = sort == 0 ? new byte[n] : sort == 1 ? new short[n] : sort == 2 ? new int[n]
                : sort == 3 ? new long[n] : new boolean[n];
        return 1;
    }

    private int refusal(int shelf) {
        if (!in(shelf, 0, 5)) return BAD;
        if (shelves[shelf] == null) return -11;
        return shelves[shelf] instanceof Laying ? -12 : 0;
    }

    int put(int shelf, int i, long v) {
        if (refusal(shelf) != 0) return refusal(shelf);
        Object row = shelves[shelf];
        try {
            if (row instanceof byte[]) ((byte[]) row)[i] = (byte) v;
            if (row instanceof short[]) ((short[]) row)[i] = (short) v;
            if (row instanceof int[]) ((int[]) row)[i] = (int) v;
            if (row instanceof long[]) ((long[]) row)[i] = v;
            if (row instanceof boolean[]) ((boolean[]) row)[i] = v != 0;
        } catch (ArrayIndexOutOfBoundsException e) {
            return -13;
        }
        return 1;
    }

    long element(int shelf, int i) {
        if (refusal(shelf) != 0) return Long.MIN_VALUE;
        Object row = shelves[shelf];
        try {
            if (row instanceof boolean[]) return ((boolean[]) row)[i] ? 1 : 0;
            return java.lang.reflect.Array.getLong(row, i);
        } catch (ArrayIndexOutOfBoundsException e) {
            return Long.MIN_VALUE;
        }
    }

    int shift(int shelf, int i, int other, int j, int n) {
        int one = refusal(shelf);
        int two = refusal(other);
        if (one == BAD || two == BAD) return BAD;
        if (one == -11 || two == -11) return -11;
        if (one != 0 || two != 0) return -12;
        try {
            System.arraycopy(shelves[shelf], i, shelves[other], j, n);
        } catch (ArrayStoreException e) {
            return -12;
        } catch (IndexOutOfBoundsException e) {
            return -13;
        }
        return n;
    }

    int taken(int shelf, int k) {
        if (!in(shelf, 0, 5) || !in(k, 0, 5)) return BAD;
        if (shelves[shelf] == null) return -11;
        Class<?>[] kinds = {Laying.class, Line.class, Two.class, Tubbed.class, Joined.class, Told.class};
        return kinds[k].isInstance(shelves[shelf]) ? ((Laying) shelves[shelf]).kind : -12;
    }

    int count(int what) {
        int[] counts = {heights.size(), ways.size(), engines.size(), layings.size(), tape.length(), loads.size(),
            things.size(), undoable.size(), trace.size()};
        return in(what, 0, 8) ? counts[what] : BAD;
    }
}
