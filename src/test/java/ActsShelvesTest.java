/** Promises 37 to 45: acts and their trace, shelves, rows, and the counts. */
public final class ActsShelvesTest {
    private static final Due D = new Due();

    public static void main(String[] args) {
        promises37And38();
        actsThatWrap();
        actsOfWhatIsNotThere();
        promise39();
        promise40();
        promise41();
        promise42();
        promise43();
        shiftsThatMayNotBe();
        promise44();
        promise45();
        D.end();
    }

    /** Layings 0 .. 5, each of the kind that is its number; LINE has two parts, TUBBED one. */
    private static OverHill sixKinds() {
        OverHill x = LayingsTest.hill();
        for (int kind = 0; kind < 6; kind++) {
            x.laying(kind, 0);
        }
        x.part(1, 1, 0, 0);
        x.part(1, 0, 0, 0);
        x.part(3, 2, 0, 0);
        return x;
    }

    private static void led(OverHill x, int laying, int act, int v, int answer, int... bodies) {
        String call = "act(" + laying + ", " + act + ", " + v + ")";
        D.due(call, x.act(laying, act, v), answer);
        D.due(call + ": bodies", x.count(8), bodies.length);
        for (int i = 0; i < bodies.length; i++) {
            D.due(call + ": trace " + i, x.trace(i), bodies[i]);
        }
        D.due(call + ": no more", x.trace(bodies.length), OverHill.BAD);
        D.due(call + ": none ahead", x.trace(-1), OverHill.BAD);
    }

    private static void promises37And38() {
        OverHill x = sixKinds();
        led(x, 0, 0, 10, 10, 1);
        led(x, 0, 1, 10, 20, 10, 1);
        led(x, 0, 2, 10, 10, 11);
        led(x, 0, 3, 10, 19, 2, 10, 1, 11);
        led(x, 1, 0, 10, 11, 1);
        led(x, 1, 1, 10, 22, 10, 1);
        led(x, 1, 2, 10, 13, 20, 11);
        led(x, 1, 3, 10, 20, 2, 10, 1, 20, 11);
        led(x, 2, 0, 10, 12, 1);
        led(x, 2, 1, 10, -24, 30, 10, 1);
        led(x, 2, 2, 10, 8, 11);
        led(x, 2, 3, 10, -27, 2, 30, 10, 1, 11);
        led(x, 3, 0, 10, 39, 40, 1);
        led(x, 3, 1, 10, 78, 10, 40, 1);
        led(x, 3, 2, 10, 9, 41, 20, 11);
        led(x, 3, 3, 10, 76, 2, 10, 40, 1, 41, 20, 11);
        led(x, 4, 0, 10, 14, 1);
        led(x, 4, 1, 10, -22, 51, 30, 10, 1, 11);
        led(x, 4, 2, 10, 14, 11);
        led(x, 4, 3, 10, -32, 50, 2, 51, 30, 10, 1, 11, 11);
        led(x, 5, 0, 10, 15, 1);
        led(x, 5, 1, 10, 30, 10, 1);
        led(x, 5, 2, 10, 9, 60, 11, 1);
        led(x, 5, 3, 10, 32, 2, 10, 1, 60, 11, 1);
    }

    private static void actsThatWrap() {
        OverHill x = sixKinds();
        led(x, 1, 0, Integer.MAX_VALUE, Integer.MIN_VALUE, 1);
        led(x, 0, 1, 1 << 30, Integer.MIN_VALUE, 10, 1);
        led(x, 2, 1, (1 << 30) - 2, Integer.MIN_VALUE, 30, 10, 1);
        led(x, 3, 0, Integer.MAX_VALUE, -2147483642, 40, 1);
        led(x, 1, 2, Integer.MAX_VALUE, Integer.MIN_VALUE, 20, 11);
        led(x, 3, 2, Integer.MAX_VALUE, Integer.MIN_VALUE + 4, 41, 20, 11);
    }

    private static void actsOfWhatIsNotThere() {
        OverHill x = sixKinds();
        D.due("no act yet", x.trace(0), OverHill.BAD);
        int[][] none = {{-1, 0}, {6, 0}, {0, -1}, {0, 4}};
        for (int[] of : none) {
            x.act(4, 3, 1);
            D.due("bodies ran", x.count(8), 8);
            led(x, of[0], of[1], 5, 0);
        }
        x.act(4, 3, 1);
        x.flow(4, 0);
        D.due("the trace stays till the next act", x.trace(7), 11);
    }

    private static void promise39() {
        OverHill x = sixKinds();
        int[][] bad = {{-1, 0}, {6, 0}, {0, 6}, {0, -2}, {6, -1}};
        for (int[] of : bad) {
            D.due("keep(" + of[0] + ", " + of[1] + ")", x.keep(of[0], of[1]), OverHill.BAD);
        }
        for (int shelf = 0; shelf < 6; shelf++) {
            D.due("nothing at first", x.taken(shelf, 0), -11);
            D.due("a laying", x.keep(shelf, shelf), 1);
            D.due("it is there", x.taken(shelf, 0), shelf);
        }
        D.due("another one", x.keep(5, 2), 1);
        D.due("it is there", x.taken(5, 0), 2);
        D.due("BAD changes nothing", x.keep(5, 6), OverHill.BAD);
        D.due("it is there still", x.taken(5, 0), 2);
        D.due("nothing", x.keep(5, -1), 1);
        D.due("nothing", x.taken(5, 0), -11);
        D.due("nothing on what holds nothing", x.keep(5, -1), 1);
        x.row(5, 0, 4);
        D.due("nothing for a row", x.keep(5, -1), 1);
        D.due("no row", x.put(5, 0, 1), -11);
        x.row(5, 0, 4);
        D.due("a laying for a row", x.keep(5, 1), 1);
        D.due("no row", x.put(5, 0, 1), -12);
    }

    private static void promise40() {
        OverHill x = sixKinds();
        int[][] bad = {{-1, 0, 0}, {6, 0, 0}, {0, -1, 0}, {0, 5, 0}, {0, 0, 61}, {0, 0, Integer.MAX_VALUE},
            {6, 0, -1}, {0, 5, -1}};
        for (int[] of : bad) {
            D.due("row(" + of[0] + ", " + of[1] + ", " + of[2] + ")", x.row(of[0], of[1], of[2]), OverHill.BAD);
        }
        D.due("a size below 0", x.row(0, 0, -1), -14);
        D.due("a size far below 0", x.row(0, 4, Integer.MIN_VALUE), -14);
        D.due("nothing came", x.taken(0, 0), -11);
        for (int sort = 0; sort < 5; sort++) {
            D.due("60 elements", x.row(sort, sort, 60), 1);
            for (int i = 0; i < 60; i++) {
                D.due("0 at first", x.element(sort, i), 0);
                x.put(sort, i, -1);
            }
            D.due("no sixty-first", x.put(sort, 60, 1), -13);
            D.due("a new one", x.row(sort, sort, 2), 1);
            D.due("0 at first again", x.element(sort, 0), 0);
            D.due("0 at first again", x.element(sort, 1), 0);
            D.due("no third", x.put(sort, 2, 1), -13);
            D.due("-14 changes nothing", x.row(sort, 0, -1), -14);
            D.due("it stays", x.put(sort, 1, 1), 1);
            D.due("an empty one", x.row(sort, sort, 0), 1);
            D.due("no first", x.put(sort, 0, 1), -13);
        }
        x.keep(5, 0);
        D.due("a row for a laying", x.row(5, 2, 1), 1);
        D.due("no laying", x.taken(5, 0), -12);
    }

    private static void kept(OverHill x, int shelf, long v, long want) {
        D.due("put " + v, x.put(shelf, 0, v), 1);
        D.due("element of " + v, x.element(shelf, 0), want);
    }

    private static void promise41() {
        OverHill x = sixKinds();
        for (int sort = 0; sort < 5; sort++) {
            x.row(sort, sort, 3);
        }
        long[][] values = {{127, 127, 127, 127, 127, 1}, {128, -128, 128, 128, 128, 1}, {-129, 127, -129, -129, -129, 1},
            {256, 0, 256, 256, 256, 1}, {32768, 0, -32768, 32768, 32768, 1}, {65535, -1, -1, 65535, 65535, 1},
            {1L << 31, 0, 0, Integer.MIN_VALUE, 1L << 31, 1}, {1L << 32, 0, 0, 0, 1L << 32, 1},
            {-1, -1, -1, -1, -1, 1}, {0, 0, 0, 0, 0, 0}, {Long.MAX_VALUE, -1, -1, -1, Long.MAX_VALUE, 1}};
        for (long[] of : values) {
            for (int sort = 0; sort < 5; sort++) {
                kept(x, sort, of[0], of[sort + 1]);
            }
        }
        D.due("shelf -1", x.put(-1, 0, 1), OverHill.BAD);
        D.due("shelf 6", x.put(6, 0, 1), OverHill.BAD);
        D.due("nothing there", x.put(5, 0, 1), -11);
        D.due("nothing there, place -1", x.put(5, -1, 1), -11);
        x.keep(5, 0);
        D.due("a laying", x.put(5, 0, 1), -12);
        D.due("a laying, place -1", x.put(5, -1, 1), -12);
        int[] places = {-1, 3, 60, Integer.MAX_VALUE, Integer.MIN_VALUE};
        for (int place : places) {
            D.due("no place " + place, x.put(2, place, 1), -13);
        }
        D.due("the last place", x.put(2, 2, 9), 1);
        D.due("the others stay", x.element(2, 1), 0);
    }

    private static void promise42() {
        OverHill x = sixKinds();
        x.row(0, 3, 3);
        x.put(0, 0, Long.MIN_VALUE + 1);
        x.put(0, 2, 5);
        D.due("the first", x.element(0, 0), Long.MIN_VALUE + 1);
        D.due("the second", x.element(0, 1), 0);
        D.due("the third", x.element(0, 2), 5);
        x.keep(1, 0);
        int[][] none = {{-1, 0}, {6, 0}, {0, -1}, {0, 3}, {0, Integer.MAX_VALUE}, {0, Integer.MIN_VALUE}, {1, 0}, {2, 0}};
        for (int[] of : none) {
            D.due("element(" + of[0] + ", " + of[1] + ")", x.element(of[0], of[1]), Long.MIN_VALUE);
        }
    }

    private static void rowOf(OverHill x, int shelf, int sort, int... values) {
        x.row(shelf, sort, values.length);
        for (int i = 0; i < values.length; i++) {
            x.put(shelf, i, values[i]);
        }
    }

    private static void isRow(String what, OverHill x, int shelf, int... values) {
        for (int i = 0; i < values.length; i++) {
            D.due(what + ": element " + i, x.element(shelf, i), values[i]);
        }
    }

    private static void promise43() {
        OverHill x = sixKinds();
        for (int sort = 0; sort < 4; sort++) {
            rowOf(x, 0, sort, 1, 2, 3, 4, 5);
            rowOf(x, 1, sort, 11, 12, 13);
            D.due("to another one", x.shift(0, 1, 1, 0, 2), 2);
            isRow("to another one", x, 1, 2, 3, 13);
            isRow("from it", x, 0, 1, 2, 3, 4, 5);
            D.due("up in the same", x.shift(0, 0, 0, 1, 4), 4);
            isRow("up in the same", x, 0, 1, 1, 2, 3, 4);
            D.due("down in the same", x.shift(0, 1, 0, 0, 4), 4);
            isRow("down in the same", x, 0, 1, 2, 3, 4, 4);
            D.due("none", x.shift(0, 5, 1, 3, 0), 0);
            D.due("all", x.shift(0, 0, 0, 0, 5), 5);
            isRow("all", x, 0, 1, 2, 3, 4, 4);
        }
        rowOf(x, 0, 4, 1, 0);
        rowOf(x, 1, 4, 0, 1);
        D.due("booleans", x.shift(0, 0, 1, 0, 2), 2);
        isRow("booleans", x, 1, 1, 0);
    }

    private static void shiftsThatMayNotBe() {
        OverHill x = sixKinds();
        rowOf(x, 0, 0, 1, 2, 3);
        rowOf(x, 1, 0, 4, 5, 6, 7);
        rowOf(x, 2, 4, 1, 1, 1);
        x.keep(3, 0);
        int max = Integer.MAX_VALUE;
        int min = Integer.MIN_VALUE;
        int[][] calls = {{-1, 0, 1, 0, 1, -1}, {6, 0, 1, 0, 1, -1}, {0, 0, -1, 0, 1, -1}, {0, 0, 6, 0, 1, -1},
            {5, 0, 6, 0, 1, -1}, {5, 0, 0, 0, 1, -11}, {0, 0, 5, 0, 1, -11}, {3, 0, 5, 0, 1, -11}, {5, 0, 3, 0, 1, -11},
            {3, 0, 0, 0, 1, -12}, {0, 0, 3, 0, 1, -12}, {3, 0, 3, 0, 0, -12}, {0, 0, 2, 0, 1, -12}, {2, 0, 0, 9, 1, -12},
            {0, -1, 1, 0, 1, -13}, {0, 0, 1, -1, 1, -13}, {0, 0, 1, 0, -1, -13}, {0, 0, 1, 0, 4, -13},
            {0, 3, 1, 0, 1, -13}, {1, 0, 0, 0, 4, -13}, {1, 0, 0, 3, 1, -13}, {0, 4, 1, 0, 0, -13}, {0, 0, 1, 5, 0, -13},
            {0, 1, 1, 0, max, -13}, {0, max, 1, 0, 1, -13}, {0, 0, 1, max, 1, -13}, {0, 0, 1, 0, min, -13},
            {0, min, 1, 0, 1, -13}, {0, max, 1, max, max, -13}, {0, 3, 1, 4, 0, 0}};
        for (int[] of : calls) {
            D.due("shift(" + of[0] + ", " + of[1] + ", " + of[2] + ", " + of[3] + ", " + of[4] + ")",
                    x.shift(of[0], of[1], of[2], of[3], of[4]), of[5]);
        }
        isRow("nothing came", x, 0, 1, 2, 3);
        isRow("nothing came", x, 1, 4, 5, 6, 7);
    }

    private static void promise44() {
        OverHill x = sixKinds();
        boolean[][] under = new boolean[6][6];
        int[][] pairs = {{1, 0}, {2, 0}, {3, 0}, {3, 1}, {4, 0}, {4, 2}, {5, 0}};
        for (int kind = 0; kind < 6; kind++) {
            under[kind][kind] = true;
        }
        for (int[] pair : pairs) {
            under[pair[0]][pair[1]] = true;
        }
        for (int kind = 0; kind < 6; kind++) {
            x.keep(kind, kind);
            for (int k = 0; k < 6; k++) {
                D.due("kind " + kind + " taken for " + k, x.taken(kind, k), under[kind][k] ? kind : -12);
            }
        }
        x.keep(0, -1);
        x.row(1, 0, 1);
        D.due("nothing", x.taken(0, 5), -11);
        D.due("a row", x.taken(1, 0), -12);
        int[][] bad = {{-1, 0}, {6, 0}, {0, -1}, {0, 6}};
        for (int[] of : bad) {
            D.due("taken(" + of[0] + ", " + of[1] + ")", x.taken(of[0], of[1]), OverHill.BAD);
        }
    }

    private static void promise45() {
        OverHill x = LayingsTest.hill();
        x.laying(4, 0);
        x.laying(4, 0);
        x.feed(3, 0);
        x.feed(2, 0);
        for (int i = 0; i < 6; i++) {
            x.load(1);
        }
        for (int i = 0; i < 7; i++) {
            x.thing(1, 1);
        }
        x.height(0, 9);
        x.act(0, 3, 1);
        int[] counts = {3, 3, 3, 2, 5, 6, 7, 1, 8};
        for (int what = 0; what < counts.length; what++) {
            D.due("count(" + what + ")", x.count(what), counts[what]);
        }
        D.due("count(-1)", x.count(-1), OverHill.BAD);
        D.due("count(9)", x.count(9), OverHill.BAD);
        D.due("count(MIN)", x.count(Integer.MIN_VALUE), OverHill.BAD);
    }
}
