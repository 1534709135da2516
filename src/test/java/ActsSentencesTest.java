/**
 * The fifth part of the document's terms, and promises 13 and 37 to 45: each sentence that names a
 * boundary case has a test of its own, with the sentence's words at its head.
 */
public final class ActsSentencesTest {
    private static final Due D = new Due();
    private static final int BAD = OverHill.BAD, FULL = OverHill.FULL;
    private static final int MIN = Integer.MIN_VALUE, MAX = Integer.MAX_VALUE;
    private static final long NONE = Long.MIN_VALUE;
    private static final int[] NO_SHELF = {-1, 6, MIN, MAX};

    public static void main(String[] args) {
        ownBodyOrTheNextAbove();
        numberAndParts();
        intsThatWrap();
        actRefused();
        asTheyBegan();
        latestActAlone();
        traceRefused();
        shelves();
        keepRefused();
        rowOfSorts();
        rowSizes();
        zeroAtFirst();
        lowestBits();
        booleans();
        longs();
        putRefused();
        putPlaces();
        elementRefused();
        elementPlaces();
        shiftOverlaps();
        shiftPlaces();
        shiftNone();
        shiftRefused();
        shiftUnlike();
        takenForAKind();
        takenRefused();
        partsByThrees();
        partsHowMany();
        partsAtTheRowsEnd();
        partsBelowZero();
        partsWhereNothingIs();
        partsOfAnotherKind();
        partsThatMayNotCome();
        partsTillFull();
        bytesHaveSigns();
        counts();
        D.end();
    }

    /** Layings 0 .. 5, each of the kind that is its number, without parts. */
    private static OverHill kinds() {
        OverHill x = Made.row(1, 1);
        Made.engines(x, 100, 100);
        for (int kind = 0; kind < 6; kind++) {
            x.laying(kind, 0);
        }
        return x;
    }

    private static void led(OverHill x, int laying, int act, int v, int answer, int... bodies) {
        String call = "act(" + laying + ", " + act + ", " + v + ")";
        D.due(call, x.act(laying, act, v), answer);
        D.due(call + ": bodies", x.count(8), bodies.length);
        for (int i = 0; i < 24; i++) {
            D.due(call + ": trace " + i, x.trace(i), i < bodies.length ? bodies[i] : BAD);
        }
    }

    private static void ownBodyOrTheNextAbove() {
        D.sentence("lifts(..) and so on: the body of its own KIND, or of the next KIND above that has one; "
                + "super: from the KIND above the body's on");
        OverHill x = kinds();
        led(x, 0, 0, 5, 5, 1);
        led(x, 0, 1, 5, 10, 10, 1);
        led(x, 0, 2, 5, 5, 11);
        led(x, 0, 3, 5, 10 - 1, 2, 10, 1, 11);
        led(x, 1, 2, 5, 4, 20, 11);
        led(x, 1, 3, 5, 12, 2, 10, 1, 20, 11);
        led(x, 2, 1, 5, -14, 30, 10, 1);
        led(x, 2, 3, 5, -14 - 3, 2, 30, 10, 1, 11);
        led(x, 3, 0, 5, 24, 40, 1);
        led(x, 3, 1, 5, 48, 10, 40, 1);
        led(x, 3, 2, 5, 5, 41, 20, 11);
        led(x, 3, 3, 5, 48 - 1, 2, 10, 40, 1, 41, 20, 11);
        led(x, 4, 1, 5, -18 + 6, 51, 30, 10, 1, 11);
        led(x, 4, 3, 5, -12 - 5 ^ 5, 50, 2, 51, 30, 10, 1, 11, 11);
        led(x, 5, 2, 5, 0 - 6, 60, 11, 1);
        led(x, 5, 3, 5, 20 - (4 - 6), 2, 10, 1, 60, 11, 1);
    }

    private static void numberAndParts() {
        D.sentence("n its number, c how many PARTS it has");
        OverHill x = kinds();
        int l = x.laying(1, 0);
        D.due("number 6, no parts", x.act(l, 2, 0), 6);
        for (int i = 1; i <= 24; i++) {
            x.part(l, 1, 0, 0);
            D.due("number 6, parts " + i, x.act(l, 2, 0), 6 + i);
        }
        x.part(l, 1, 0, 0);
        D.due("a twenty-fifth came not", x.act(l, 2, 0), 30);
        for (int i = 7; i < 20; i++) {
            x.laying(3, 0);
        }
        D.due("number 19", x.act(19, 0, 1), 60);
        D.due("number 19", x.act(19, 2, 0), 1 ^ 19);
        x.part(19, 2, 0, 0);
        D.due("a tub is a part", x.act(19, 2, 0), (1 ^ 19) + 1);
    }

    private static void intsThatWrap() {
        D.sentence("with x (an int that wraps)");
        OverHill x = kinds();
        led(x, 1, 0, MAX, MIN, 1);
        led(x, 5, 0, MAX, MIN + 4, 1);
        led(x, 0, 1, MIN, 0, 10, 1);
        led(x, 0, 1, 1 << 30, MIN, 10, 1);
        led(x, 2, 1, (1 << 30) - 2, MIN, 30, 10, 1);
        led(x, 3, 0, MAX, (MIN + 2) * 3, 40, 1);
        led(x, 3, 2, MAX, MIN ^ 3, 41, 20, 11);
        x.part(1, 1, 0, 0);
        led(x, 1, 2, MAX - 1, MIN, 20, 11);
        led(x, 5, 2, MIN, (MIN ^ 5) - 6, 60, 11, 1);
        led(x, 0, 3, (1 << 30) - 1, MAX - 2, 2, 10, 1, 11);
        led(x, 0, 3, 1 << 30, MAX, 2, 10, 1, 11);
        led(x, 4, 1, 1 << 30, MIN - 8 + 6, 51, 30, 10, 1, 11);
    }

    private static void actRefused() {
        D.sentence("0, and no TRACE then: no such LAYING, ACT; act() of what there is not: no TRACE");
        OverHill x = kinds();
        int[] layings = {-1, 6, 19, 20, MIN, MAX};
        for (int laying : layings) {
            D.due("act", x.act(4, 3, 5), -12 - 5 ^ 5);
            led(x, laying, 0, 5, 0);
        }
        int[] acts = {-1, 4, 10, MIN, MAX};
        for (int act : acts) {
            D.due("act", x.act(4, 3, 5), -12 - 5 ^ 5);
            led(x, 4, act, 5, 0);
        }
        led(new OverHill(), 0, 0, 5, 0);
        led(x, 0, 0, 5, 5, 1);
    }

    private static void asTheyBegan() {
        D.sentence("THE TRACE: numbers of the bodies that ran in the latest act(), as they began; the first 24 are kept");
        OverHill x = kinds();
        led(x, 4, 3, 0, -8 + 6 - 5 ^ 5, 50, 2, 51, 30, 10, 1, 11, 11);
        for (int laying = 0; laying < 6; laying++) {
            for (int act = 0; act < 4; act++) {
                x.act(laying, act, 1);
                D.holds("so few bodies that all are kept", x.count(8) >= 1 && x.count(8) <= 8);
                D.holds("the last one is kept", x.trace(x.count(8) - 1) > 0);
                D.due("none is behind it", x.trace(x.count(8)), BAD);
            }
        }
    }

    private static void latestActAlone() {
        D.sentence("THE TRACE: of the latest act(); 8 bodies that ran in the latest act()");
        OverHill x = kinds();
        D.due("none yet", x.count(8), 0);
        D.due("none yet", x.trace(0), BAD);
        led(x, 4, 3, 5, -12 - 5 ^ 5, 50, 2, 51, 30, 10, 1, 11, 11);
        led(x, 0, 0, 5, 5, 1);
        x.flow(0, 0);
        x.part(0, 1, 0, 0);
        x.taken(0, 0);
        D.due("other calls leave it", x.trace(0), 1);
        D.due("other calls leave it", x.count(8), 1);
    }

    private static void traceRefused() {
        D.sentence("THE TRACE's i-th body. BAD");
        OverHill x = kinds();
        x.act(4, 3, 5);
        D.each("trace", new int[] {-1, 8, 9, 23, 24, 25, MIN, MAX}, i -> x.trace(i), BAD);
        D.due("the first", x.trace(0), 50);
        D.due("the last", x.trace(7), 11);
    }

    private static void shelves() {
        D.sentence("SHELVES 0 .. 5 each hold nothing (at first), a LAYING, or a ROW");
        OverHill x = kinds();
        for (int shelf = 0; shelf < 6; shelf++) {
            D.due("nothing at first", x.taken(shelf, 0), -11);
            D.due("nothing at first", x.put(shelf, 0, 1), -11);
        }
        for (int shelf = 0; shelf < 6; shelf++) {
            D.due("a laying", x.keep(shelf, 5 - shelf), 1);
            D.due("it is there", x.taken(shelf, 0), 5 - shelf);
            D.due("no row is there", x.put(shelf, 0, 1), -12);
        }
        for (int shelf = 0; shelf < 6; shelf++) {
            D.due("a row in its place", x.row(shelf, 3, shelf + 1), 1);
            D.due("no laying is there", x.taken(shelf, 0), -12);
            D.due("a row is there", x.put(shelf, shelf, 10 + shelf), 1);
        }
        for (int shelf = 0; shelf < 6; shelf++) {
            D.due("each its own", x.element(shelf, shelf), 10 + shelf);
            D.due("nothing in its place", x.keep(shelf, -1), 1);
            D.due("nothing is there", x.taken(shelf, 0), -11);
            D.due("nothing is there", x.element(shelf, shelf), NONE);
        }
    }

    private static void keepRefused() {
        D.sentence("A SHELF holds nothing (laying -1), or a LAYING: 1. BAD");
        OverHill x = kinds();
        D.each("keep on", NO_SHELF, s -> x.keep(s, 0), BAD);
        D.each("keep nothing on", NO_SHELF, s -> x.keep(s, -1), BAD);
        x.keep(2, 3);
        D.each("keep laying", new int[] {-2, 6, 19, 20, MIN, MAX}, l -> x.keep(2, l), BAD);
        D.due("what was there stays", x.taken(2, 3), 3);
        D.due("nothing where nothing is", x.keep(1, -1), 1);
        D.due("the same once more", x.keep(2, 3), 1);
        D.due("one laying on two shelves", x.keep(1, 3), 1);
        D.due("it is on both", x.taken(1, 3) + x.taken(2, 3), 6);
        OverHill y = new OverHill();
        D.due("no laying 0", y.keep(0, 0), BAD);
    }

    private static void rowOfSorts() {
        D.sentence("a ROW: of 0 bytes, 1 shorts, 2 ints, 3 longs, 4 booleans. BAD (sort)");
        OverHill x = new OverHill();
        D.each("row of sort", new int[] {-1, 5, 6, MIN, MAX}, s -> x.row(0, s, 1), BAD);
        D.each("row on", NO_SHELF, s -> x.row(s, 0, 1), BAD);
        D.due("nothing came", x.put(0, 0, 1), -11);
        long[] due = {0x55, 0x5555, 0x55555555, 0x5555555555555555L, 1};
        for (int sort = 0; sort < 5; sort++) {
            D.due("sort " + sort, x.row(0, sort, 1), 1);
            x.put(0, 0, 0x5555555555555555L);
            D.due("sort " + sort, x.element(0, 0), due[sort]);
        }
    }

    private static void rowSizes() {
        D.sentence("of 0 .. 60 elements. BAD (n above 60); -14 a size below 0");
        OverHill x = new OverHill();
        x.row(0, 0, 7);
        D.each("row of", new int[] {61, 62, 100, MAX}, n -> x.row(0, 0, n), BAD);
        D.each("row of", new int[] {-1, -60, MIN}, n -> x.row(0, 0, n), -14);
        D.due("BAD goes ahead of -14: sort", x.row(0, 5, -1), BAD);
        D.due("BAD goes ahead of -14: sort", x.row(0, -1, -1), BAD);
        D.due("BAD goes ahead of -14: shelf", x.row(6, 0, -1), BAD);
        D.due("the old row stays", x.put(0, 6, 1), 1);
        D.due("the old row stays", x.put(0, 7, 1), -13);
        D.due("of 60", x.row(0, 0, 60), 1);
        D.due("the sixtieth", x.put(0, 59, 1), 1);
        D.due("a sixty-first", x.put(0, 60, 1), -13);
        D.due("of 0", x.row(0, 0, 0), 1);
        D.due("no first", x.put(0, 0, 1), -13);
        D.due("of 1", x.row(0, 0, 1), 1);
        D.due("the first", x.put(0, 0, 1), 1);
        D.due("no second", x.put(0, 1, 1), -13);
    }

    private static void zeroAtFirst() {
        D.sentence("of 0 .. 60 elements (0 at first; false)");
        OverHill x = new OverHill();
        for (int sort = 0; sort < 5; sort++) {
            for (int time = 0; time < 2; time++) {
                x.row(sort, sort, 60);
                for (int i = 0; i < 60; i += 59) {
                    D.due("element " + i + " of sort " + sort, x.element(sort, i), 0);
                    x.put(sort, i, -1);
                }
            }
            x.row(sort, sort, 1);
            x.put(sort, 0, 1);
            x.row(sort, sort, 60);
            for (int i = 0; i < 60; i++) {
                D.due("behind a shorter one element " + i, x.element(sort, i), 0);
            }
        }
    }

    private static void kept(OverHill x, int sort, long v, long want) {
        x.row(0, sort, 1);
        D.due("put " + v + " in sort " + sort, x.put(0, 0, v), 1);
        D.due("element of " + v + " in sort " + sort, x.element(0, 0), want);
    }

    private static void lowestBits() {
        D.sentence("what is put in keeps its lowest bits");
        OverHill x = new OverHill();
        long[][] ofBytes = {{127, 127}, {128, -128}, {255, -1}, {256, 0}, {257, 1}, {-128, -128}, {-129, 127},
            {1L << 40, 0}, {Long.MIN_VALUE, 0}, {Long.MAX_VALUE, -1}};
        for (long[] of : ofBytes) {
            kept(x, 0, of[0], of[1]);
        }
        long[][] ofShorts = {{32767, 32767}, {32768, -32768}, {65535, -1}, {65536, 0}, {65537, 1}, {-32768, -32768},
            {-32769, 32767}, {1L << 40, 0}, {Long.MAX_VALUE, -1}};
        for (long[] of : ofShorts) {
            kept(x, 1, of[0], of[1]);
        }
        long[][] ofInts = {{MAX, MAX}, {MAX + 1L, MIN}, {(1L << 32) - 1, -1}, {1L << 32, 0}, {(1L << 32) + 1, 1}, {MIN, MIN},
            {MIN - 1L, MAX}, {1L << 40, 0}, {Long.MAX_VALUE, -1}, {Long.MIN_VALUE, 0}};
        for (long[] of : ofInts) {
            kept(x, 2, of[0], of[1]);
        }
    }

    private static void booleans() {
        D.sentence("(a boolean: whether it is not 0; 1 or 0)");
        OverHill x = new OverHill();
        long[] notZero = {1, 2, -1, 256, 1L << 32, 1L << 63, Long.MAX_VALUE};
        for (long v : notZero) {
            kept(x, 4, v, 1);
            D.due("0 behind it", x.put(0, 0, 0), 1);
            D.due("0 behind it", x.element(0, 0), 0);
        }
    }

    private static void longs() {
        D.sentence("3 longs: all bits are kept");
        OverHill x = new OverHill();
        long[] all = {0, 1, -1, Long.MAX_VALUE, Long.MIN_VALUE, Long.MIN_VALUE + 1, 1L << 32, 0x0123456789abcdefL};
        for (long v : all) {
            kept(x, 3, v, v);
        }
    }

    private static void putRefused() {
        D.sentence("put: BAD, -11 nothing is there, -12 it is of another kind, -13 a place that is not there");
        OverHill x = kinds();
        int[] places = {-1, 0, 1, 60, MIN, MAX};
        for (int place : places) {
            D.each("put at " + place + " on", NO_SHELF, s -> x.put(s, place, 1), BAD);
            x.keep(0, -1);
            D.due("nothing is there", x.put(0, place, 1), -11);
            x.keep(0, 3);
            D.due("a laying is there", x.put(0, place, 1), -12);
            x.row(0, 0, 0);
            D.due("no place is there", x.put(0, place, 1), -13);
        }
    }

    private static void putPlaces() {
        D.sentence("-13 a place that is not there (put)");
        OverHill x = new OverHill();
        for (int sort = 0; sort < 5; sort++) {
            x.row(0, sort, 3);
            D.each("put at", new int[] {-1, -2, 3, 4, 59, 60, MIN, MAX}, i -> x.put(0, i, 1), -13);
            for (int i = 0; i < 3; i++) {
                D.due("nothing came", x.element(0, i), 0);
                D.due("put at " + i, x.put(0, i, 1), 1);
                D.due("it came", x.element(0, i), 1);
            }
        }
    }

    private static void elementRefused() {
        D.sentence("Element i of a ROW; Long.MIN_VALUE: BAD, -11 to -13");
        OverHill x = kinds();
        for (int shelf : NO_SHELF) {
            D.due("shelf " + shelf, x.element(shelf, 0), NONE);
        }
        D.due("nothing is there", x.element(0, 0), NONE);
        x.keep(0, 0);
        D.due("a laying is there", x.element(0, 0), NONE);
        x.row(0, 0, 0);
        D.due("no place is there", x.element(0, 0), NONE);
        x.row(0, 0, 1);
        D.due("a place is there", x.element(0, 0), 0);
    }

    private static void elementPlaces() {
        D.sentence("-13 a place that is not there (element)");
        OverHill x = new OverHill();
        x.row(0, 3, 3);
        for (int i = 0; i < 3; i++) {
            x.put(0, i, i + 5);
        }
        int[] none = {-1, -2, 3, 4, 59, 60, MIN, MAX};
        for (int i : none) {
            D.due("element " + i, x.element(0, i), NONE);
        }
        for (int i = 0; i < 3; i++) {
            D.due("element " + i, x.element(0, i), i + 5);
        }
    }

    private static void isRow(String what, OverHill x, int shelf, int... want) {
        for (int i = 0; i < want.length; i++) {
            D.due(what + ": element " + i, x.element(shelf, i), want[i]);
        }
        D.due(what + ": no more", x.element(shelf, want.length), NONE);
    }

    private static void shiftOverlaps() {
        D.sentence("n elements from i on come to another one (or the same) from j on, as they all were before: n");
        for (int sort = 0; sort < 4; sort++) {
            OverHill x = new OverHill();
            Made.shelf(x, 0, sort, 1, 2, 3, 4, 5, 6);
            Made.shelf(x, 1, sort, 11, 12, 13);
            D.due("up in the same", x.shift(0, 0, 0, 2, 4), 4);
            isRow("up in the same", x, 0, 1, 2, 1, 2, 3, 4);
            D.due("down in the same", x.shift(0, 2, 0, 1, 4), 4);
            isRow("down in the same", x, 0, 1, 1, 2, 3, 4, 4);
            D.due("where they are", x.shift(0, 0, 0, 0, 6), 6);
            isRow("where they are", x, 0, 1, 1, 2, 3, 4, 4);
            D.due("all of a shorter one", x.shift(1, 0, 0, 3, 3), 3);
            isRow("all of a shorter one", x, 0, 1, 1, 2, 11, 12, 13);
            D.due("to a shorter one", x.shift(0, 0, 1, 0, 3), 3);
            isRow("to a shorter one", x, 1, 1, 1, 2);
            isRow("the one stays", x, 0, 1, 1, 2, 11, 12, 13);
        }
        OverHill y = new OverHill();
        Made.shelf(y, 0, 4, 1, 0, 0);
        D.due("booleans", y.shift(0, 0, 0, 1, 2), 2);
        isRow("booleans", y, 0, 1, 1, 0);
    }

    private static void shiftPlaces() {
        D.sentence("-13 a place that is not there (shift); n below 0 is -13");
        OverHill x = new OverHill();
        Made.shelf(x, 0, 0, 1, 2, 3);
        Made.shelf(x, 1, 0, 4, 5, 6, 7);
        int[][] none = {{-1, 0, 1}, {0, -1, 1}, {0, 0, -1}, {0, 0, 4}, {1, 0, 3}, {3, 0, 1}, {4, 0, 0}, {0, 2, 3}, {0, 4, 1},
            {0, 5, 0}, {-1, 0, 0}, {0, -1, 0}, {MIN, 0, 1}, {0, MIN, 1}, {0, 0, MIN}, {MAX, 0, 1}, {0, MAX, 1}, {0, 0, MAX},
            {1, 0, MAX}, {0, 1, MAX}, {MAX, MAX, MAX}, {1, 1, MIN}, {3, 4, -1}, {4, 0, -1}};
        for (int[] of : none) {
            String call = "shift(0, " + of[0] + ", 1, " + of[1] + ", " + of[2] + ")";
            D.due(call, x.shift(0, of[0], 1, of[1], of[2]), -13);
        }
        isRow("nothing came", x, 0, 1, 2, 3);
        isRow("nothing came", x, 1, 4, 5, 6, 7);
        D.due("just all", x.shift(0, 0, 1, 1, 3), 3);
        isRow("just all", x, 1, 4, 1, 2, 3);
        D.due("the last one", x.shift(0, 2, 1, 3, 1), 1);
        D.due("of the longer one as many as the shorter takes", x.shift(1, 1, 0, 0, 3), 3);
        D.due("one more than it takes", x.shift(1, 0, 0, 0, 4), -13);
    }

    private static void shiftNone() {
        D.sentence("n elements of a ROW (none): n");
        OverHill x = new OverHill();
        Made.shelf(x, 0, 2, 1, 2);
        x.row(1, 2, 0);
        D.due("none from the first", x.shift(0, 0, 1, 0, 0), 0);
        D.due("none from behind the last", x.shift(0, 2, 1, 0, 0), 0);
        D.due("none from two behind the last", x.shift(0, 3, 1, 0, 0), -13);
        D.due("none to behind the last", x.shift(1, 0, 0, 2, 0), 0);
        D.due("none to two behind the last", x.shift(1, 0, 0, 3, 0), -13);
        D.due("none of an empty one to itself", x.shift(1, 0, 1, 0, 0), 0);
        D.due("one of an empty one", x.shift(1, 0, 0, 0, 1), -13);
        D.due("one to an empty one", x.shift(0, 0, 1, 0, 1), -13);
        isRow("nothing came", x, 0, 1, 2);
    }

    private static void shiftRefused() {
        D.sentence("shift: BAD, -11 (either), -12 (no ROWS, or of unlike sorts), -13");
        OverHill x = kinds();
        // Shelves: 0 nothing, 1 a laying, 2 bytes, 3 shorts.
        x.keep(1, 0);
        x.row(2, 0, 2);
        x.row(3, 1, 2);
        int[][] due = {{-11, -11, -11, -11}, {-11, -12, -12, -12}, {-11, -12, 0, -12}, {-11, -12, -12, 0}};
        for (int from = 0; from < 4; from++) {
            for (int to = 0; to < 4; to++) {
                D.due("from " + from + " to " + to, x.shift(from, 0, to, 0, 0), due[from][to]);
                D.due("a wrong place from " + from + " to " + to, x.shift(from, -1, to, 9, 5),
                        due[from][to] == 0 ? -13 : due[from][to]);
            }
            int f = from;
            D.each("from " + from + " to", NO_SHELF, s -> x.shift(f, 0, s, 0, 0), BAD);
            D.each("to " + from + " from", NO_SHELF, s -> x.shift(s, 0, f, 0, 0), BAD);
        }
        D.due("from and to none", x.shift(-1, 0, 6, 0, 0), BAD);
    }

    private static void shiftUnlike() {
        D.sentence("-12 (of unlike sorts)");
        OverHill x = new OverHill();
        for (int sort = 0; sort < 5; sort++) {
            x.row(sort, sort, 1);
        }
        for (int from = 0; from < 5; from++) {
            for (int to = 0; to < 5; to++) {
                D.due("one from sort " + from + " to " + to, x.shift(from, 0, to, 0, 1), from == to ? 1 : -12);
                D.due("none from sort " + from + " to " + to, x.shift(from, 0, to, 0, 0), from == to ? 0 : -12);
            }
        }
    }

    private static void takenForAKind() {
        D.sentence("What a SHELF holds, taken for a LAYING of KIND k (0 .. 5), or under it: its KIND. -12");
        OverHill x = kinds();
        String[] under = {"0", "01", "02", "013", "024", "05"};
        for (int kind = 0; kind < 6; kind++) {
            x.keep(0, kind);
            for (int k = 0; k < 6; k++) {
                boolean is = under[kind].indexOf('0' + k) >= 0;
                D.due("kind " + kind + " taken for " + k, x.taken(0, k), is ? kind : -12);
            }
        }
    }

    private static void takenRefused() {
        D.sentence("taken: BAD, -11, -12");
        OverHill x = kinds();
        D.each("taken from", NO_SHELF, s -> x.taken(s, 0), BAD);
        int[] none = {-1, 6, MIN, MAX};
        D.each("nothing taken for", none, k -> x.taken(0, k), BAD);
        x.row(1, 0, 1);
        D.each("a row taken for", none, k -> x.taken(1, k), BAD);
        x.keep(2, 0);
        D.each("a laying taken for", none, k -> x.taken(2, k), BAD);
        for (int k = 0; k < 6; k++) {
            D.due("nothing taken for " + k, x.taken(0, k), -11);
            D.due("a row taken for " + k, x.taken(1, k), -12);
            D.due("a LAYING taken for " + k, x.taken(2, k), k == 0 ? 0 : -12);
        }
    }

    private static void partsByThrees() {
        D.sentence("PARTS FROM A ROW of bytes, from a place on: by threes sort, number, BORE (of a WAY; else any)");
        OverHill x = kinds();
        Made.shelf(x, 0, 0, 99, 0, 1, -5, 1, 0, 2, 2, 9, 127, 1, 1, 1);
        D.due("four from place 1", x.parts(3, 0, 1, 4), 4);
        int[] sorts = {0, 1, 2, 1};
        int[] numbers = {1, 0, -1, 1};
        int[] bores = {-1, 2, -1, 1};
        for (int i = 0; i < 4; i++) {
            D.due("sort " + i, x.of(3, 100 + i), sorts[i]);
            D.due("number " + i, x.of(3, 200 + i), numbers[i]);
            D.due("bore " + i, x.of(3, 300 + i), bores[i]);
        }
        D.due("it ends at", x.of(3, 2), 2);
    }

    private static void partsHowMany() {
        D.sentence("n (1 .. 20) of them: how many came. BAD");
        OverHill x = kinds();
        x.row(0, 0, 60);
        for (int i = 0; i < 20; i++) {
            x.put(0, 3 * i, 1);
        }
        D.each("parts, n", new int[] {0, -1, 21, MIN, MAX}, n -> x.parts(0, 0, 0, n), BAD);
        D.each("parts of laying", new int[] {-1, 6, 19, 20, MIN, MAX}, l -> x.parts(l, 0, 0, 1), BAD);
        D.each("parts from shelf", NO_SHELF, s -> x.parts(0, s, 0, 1), BAD);
        D.due("none came", x.of(0, 1), 0);
        D.due("one", x.parts(0, 0, 0, 1), 1);
        D.due("one came", x.of(0, 1), 1);
        D.due("twenty", x.parts(0, 0, 0, 20), 20);
        D.due("21 came", x.of(0, 1), 21);
        D.due("19 from the second three on", x.parts(1, 0, 3, 20), 19);
        D.due("19 came", x.of(1, 1), 19);
    }

    private static void partsAtTheRowsEnd() {
        D.sentence("it ends where the row ends (within a three, too): those ahead came");
        OverHill x = kinds();
        Made.shelf(x, 0, 0, 1, 0, 0, 1, 0, 0, 1, 0);
        int[] places = {0, 3, 4, 5, 6, 7, 8, 9, 59, 60, MAX - 2, MAX};
        // From 4 and 5 on the three tells of an engine.
        int[] came = {2, 1, 1, 1, 0, 0, 0, 0, 0, 0, 0, 0};
        for (int i = 0; i < places.length; i++) {
            int l = x.laying(0, 0);
            int from = places[i];
            D.due("from " + from, x.parts(l, 0, from, 3), came[i]);
            D.due("parts from " + from, x.of(l, 1), came[i]);
        }
        x.row(0, 0, 0);
        D.due("of an empty row", x.parts(0, 0, 0, 1), 0);
        Made.shelf(x, 0, 0, 1, 0);
        D.due("of a row of two", x.parts(0, 0, 0, 1), 0);
        Made.shelf(x, 0, 0, 1, 0, 0);
        D.due("of a row of three", x.parts(0, 0, 0, 1), 1);
    }

    private static void partsBelowZero() {
        D.sentence("it ends at a place below 0, too; parts(): a place below 0: none came");
        OverHill x = kinds();
        x.row(0, 0, 60);
        for (int i = 0; i < 60; i++) {
            x.put(0, i, i % 3 == 0 ? 1 : 0);
        }
        D.each("parts from", new int[] {-1, -2, -3, -6, -60, MIN, MIN + 1, MIN + 2}, i -> x.parts(0, 0, i, 20), 0);
        D.due("none came", x.of(0, 1), 0);
        D.due("from 0", x.parts(0, 0, 0, 2), 2);
    }

    private static void partsWhereNothingIs() {
        D.sentence("it ends where the row is missing; a SHELF that holds nothing is missing");
        OverHill x = kinds();
        for (int shelf = 0; shelf < 6; shelf++) {
            D.due("shelf " + shelf, x.parts(0, shelf, 0, 1), 0);
            D.due("shelf " + shelf, x.parts(0, shelf, -1, 20), 0);
        }
        D.due("BAD all the same", x.parts(0, 0, 0, 0), BAD);
        D.due("BAD all the same", x.parts(6, 0, 0, 1), BAD);
        x.row(0, 0, 3);
        x.keep(0, -1);
        D.due("it holds nothing again", x.parts(0, 0, 0, 1), 0);
        D.due("none came", x.of(0, 1), 0);
    }

    private static void partsOfAnotherKind() {
        D.sentence("-12 (no ROW of bytes)");
        OverHill x = kinds();
        for (int sort = 0; sort < 5; sort++) {
            Made.shelf(x, 0, sort, 1, 0, 0);
            D.due("sort " + sort, x.parts(0, 0, 0, 1), sort == 0 ? 1 : -12);
            D.due("from no place of sort " + sort, x.parts(0, 0, -1, 1), sort == 0 ? 0 : -12);
            x.row(0, sort, 0);
            D.due("none of sort " + sort, x.parts(0, 0, 0, 1), sort == 0 ? 0 : -12);
        }
        x.keep(0, 0);
        D.due("a laying", x.parts(0, 0, 0, 1), -12);
        D.due("itself", x.parts(0, 0, 0, 20), -12);
        D.due("BAD goes ahead of -12", x.parts(0, 0, 0, 21), BAD);
        D.due("one came", x.of(0, 1), 1);
    }

    private static void partsThatMayNotCome() {
        D.sentence("it ends where one may not come: those ahead came");
        int[][] threes = {{3, 0, 0}, {-1, 0, 0}, {0, 2, 0}, {0, -1, 0}, {1, 2, 0}, {1, -1, 0}, {1, 0, 3}, {1, 0, -1},
            {1, 0, 0}, {2, 0, 0}, {0, 0, 0}};
        for (int[] three : threes) {
            OverHill x = kinds();
            // Way 0, engine 0, way 1; then the three, and way 1 once more: from point 2 way 0 does not lead on.
            Made.shelf(x, 0, 0, 1, 0, 0, 0, 0, 0, 1, 1, 0, three[0], three[1], three[2], 1, 1, 0);
            D.due("ends at " + three[0] + ", " + three[1] + ", " + three[2], x.parts(0, 0, 0, 5), 3);
            D.due("three came", x.of(0, 1), 3);
            D.due("at point 2", x.of(0, 2), 2);
            D.due("none from there on", x.parts(0, 0, 9, 2), 0);
            D.due("what is behind it may come", x.parts(0, 0, 12, 1), 1);
        }
    }

    private static void partsTillFull() {
        D.sentence("FULL: 24; one may not come: those ahead came");
        OverHill x = kinds();
        x.row(0, 0, 60);
        for (int i = 0; i < 20; i++) {
            x.put(0, 3 * i, 1);
        }
        D.due("twenty", x.parts(0, 0, 0, 20), 20);
        D.due("four more", x.parts(0, 0, 0, 20), 4);
        D.due("24 parts", x.of(0, 1), 24);
        D.due("none of a full one", x.parts(0, 0, 0, 1), 0);
        D.due("part() says why", x.part(0, 1, 0, 0), FULL);
    }

    private static void bytesHaveSigns() {
        D.sentence("a ROW of bytes keeps lowest bits: sort, number, BORE below 0 are none");
        OverHill x = kinds();
        Made.shelf(x, 0, 0, 257, 256, 512, 1, 255, 0, 1, 1, 128);
        D.due("257, 256, 512 are 1, 0, 0", x.parts(0, 0, 0, 1), 1);
        D.due("255 is way -1", x.parts(0, 0, 3, 1), 0);
        D.due("128 is bore -128", x.parts(0, 0, 6, 1), 0);
        D.due("one came", x.of(0, 1), 1);
        D.due("way 0", x.of(0, 200), 0);
    }

    private static void counts() {
        D.sentence("How many: 0 POINTS .. 8 bodies. BAD");
        OverHill x = new OverHill();
        D.each("count", new int[] {-1, 9, 10, 100, MIN, MAX}, w -> x.count(w), BAD);
        int[] due = new int[9];
        for (int what = 0; what < 9; what++) {
            switch (what) {
                case 0: x.point(0); x.point(0); break;
                case 1: x.way(0, 1, 1); break;
                case 2: x.engine(1, 1); break;
                case 3: x.laying(0, 0); break;
                case 4: x.feed(3, 0); break;
                case 5: x.load(1); break;
                case 6: x.thing(1, 1); break;
                case 7: x.height(0, 1); break;
                default: x.act(0, 3, 0); break;
            }
            due[what] = what == 0 ? 2 : what == 4 ? 3 : what == 8 ? 4 : 1;
            for (int other = 0; other < 9; other++) {
                D.due("count " + other + " when " + what + " came", x.count(other), due[other]);
            }
        }
        x.undo();
        D.due("what is undone may not be undone", x.count(7), 0);
        x.redo();
        D.due("what is done again may be", x.count(7), 1);
    }
}
