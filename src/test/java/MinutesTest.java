/** Promises 24 to 36: loads, ways of engines, fuel, shares, the cart, old hose, changes undone. */
public final class MinutesTest {
    private static final Due D = new Due();

    public static void main(String[] args) {
        promises24And26();
        promise25();
        promise27();
        promise28();
        promise29();
        promise30();
        promises31And33();
        promise32();
        promise34();
        promise35();
        promise36();
        fortyAreKept();
        D.end();
    }

    private static OverHill loaded(int... loads) {
        OverHill x = new OverHill();
        for (int i = 0; i < loads.length; i++) {
            D.due("load " + i, x.load(loads[i]), i + 1);
        }
        return x;
    }

    private static void promises24And26() {
        OverHill x = loaded(1, 99, 1, 1, 1, 1, 1, 1);
        D.due("a ninth", x.load(1), OverHill.FULL);
        D.due("BAD ahead of FULL", x.load(0), OverHill.BAD);
        D.due("8 loads", x.count(5), 8);
        D.due("unload()", x.unload(), 8);
        D.due("unload()", x.unload(), 0);
        int[] bad = {0, -1, 100, Integer.MIN_VALUE};
        for (int minutes : bad) {
            D.due("load(" + minutes + ")", x.load(minutes), OverHill.BAD);
        }
        D.due("no loads", x.count(5), 0);
        D.due("none to carry", x.minutes(1, 0), OverHill.STATE);
        D.due("one again", x.load(7), 1);
        D.due("it alone", x.minutes(4, 0), 7);
    }

    private static void carried(OverHill x, int k, int least, int by) {
        D.due("minutes(" + k + ", 0)", x.minutes(k, 0), least);
        D.due("minutes(" + k + ", 1)", x.minutes(k, 1), by);
    }

    private static void promise25() {
        int[][] bad = {{0, 0}, {5, 0}, {-1, 0}, {1, -1}, {1, 2}};
        OverHill none = loaded();
        OverHill x = loaded(2, 2, 2);
        for (int[] of : bad) {
            D.due("minutes(" + of[0] + ", " + of[1] + ")", x.minutes(of[0], of[1]), OverHill.BAD);
            D.due("BAD ahead of STATE", none.minutes(of[0], of[1]), OverHill.BAD);
        }
        D.due("none is told", none.minutes(1, 1), OverHill.STATE);
        carried(x, 1, 6, 0);
        carried(x, 2, 4, 1);
        carried(x, 3, 2, 12);
        carried(x, 4, 2, 12);
        D.due("the loads stay", x.count(5), 3);
        carried(loaded(5, 1, 1, 1, 1, 1), 2, 5, 11111);
        carried(loaded(1, 1, 1, 3), 2, 3, 1);
        carried(loaded(9, 5, 7, 3), 2, 12, 110);
        carried(loaded(9, 5, 7, 3), 3, 9, 122 - 1);
        carried(loaded(99, 99, 99, 99, 99, 99, 99, 99), 4, 198, 112233);
        carried(loaded(8, 7, 6, 5, 4, 3, 2, 1), 4, 9, 1233210);
        carried(loaded(1, 2, 3, 4, 5, 6, 7, 8), 1, 36, 0);
    }

    private static void promise27() {
        OverHill x = new OverHill();
        for (int i = 0; i < 5; i++) {
            x.point(0);
        }
        x.way(1, 0, 12);
        x.way(1, 2, 8);
        x.way(0, 2, 30);
        x.way(2, 3, 1);
        int[] speeds = {3, 9, 5, 1};
        int[] minutes = {7, 3, 5, 20};
        for (int i = 0; i < speeds.length; i++) {
            x.engine(0, speeds[i]);
            D.due("at speed " + speeds[i], x.soon(i, 0, 2), minutes[i]);
            D.due("and back", x.soon(i, 2, 0), minutes[i]);
            D.due("one way more", x.soon(i, 0, 3), minutes[i] + 1);
            D.due("to itself", x.soon(i, 4, 4), 0);
            D.due("no ways lead there", x.soon(i, 0, 4), OverHill.NOT);
        }
        x.way(0, 2, 8);
        D.due("of two ways the better one", x.soon(3, 0, 2), 8);
        int[][] bad = {{-1, 0, 0}, {4, 0, 0}, {0, -1, 0}, {0, 5, 0}, {0, 0, -1}, {0, 0, 5}};
        for (int[] of : bad) {
            D.due("soon of what is not there", x.soon(of[0], of[1], of[2]), OverHill.BAD);
        }
        OverHill row = new OverHill();
        row.engine(0, 9);
        for (int i = 0; i < 12; i++) {
            row.point(0);
        }
        for (int i = 11; i > 0; i--) {
            row.way(i - 1, i, 10);
        }
        D.due("eleven ways one behind the other", row.soon(0, 0, 11), 22);
        D.due("and back", row.soon(0, 11, 0), 22);
    }

    private static void promise28() {
        OverHill x = LayingsTest.hill();
        int l = LayingsTest.lay(x, 3, 2, 0, 0, 1, 0, 0);
        D.due("without engines", x.lasts(l), 999);
        x.part(l, 0, 2, 0);
        D.due("70 minutes", x.lasts(l), 70);
        x.part(l, 0, 1, 0);
        D.due("50 minutes", x.lasts(l), 50);
        x.part(l, 0, 0, 0);
        D.due("50 minutes still", x.lasts(l), 50);
        D.due("laying -1", x.lasts(-1), OverHill.BAD);
        D.due("laying 1", x.lasts(1), OverHill.BAD);
        OverHill y = LayingsTest.hill();
        D.due("an engine in its first part", y.lasts(LayingsTest.lay(y, 4, 0, 2, 0)), 70);
        D.due("no parts", x.lasts(x.laying(0, 0)), 999);
    }

    private static void promise29() {
        OverHill x = LayingsTest.hill();
        int[][] answers = {{1, 99, 100}, {2, 99, 50}, {4, 0, 70}, {7, 0, 220}, {7, 10, 200}, {5, 99, 71}, {6, 1, 119},
            {3, 50, 100}};
        for (int[] of : answers) {
            D.due("turn(" + of[0] + ", " + of[1] + ")", x.turn(of[0], of[1]), of[2]);
        }
        int[][] bad = {{0, 0}, {8, 0}, {9, 0}, {-1, 0}, {Integer.MIN_VALUE, 0}, {1, -1}, {1, 100}};
        for (int[] of : bad) {
            D.due("turn(" + of[0] + ", " + of[1] + ")", x.turn(of[0], of[1]), OverHill.BAD);
        }
        OverHill none = new OverHill();
        D.due("no engines", none.turn(1, 0), OverHill.BAD);
        for (int i = 0; i < 6; i++) {
            none.engine(i, 1);
        }
        D.due("below 0", none.turn(63, 99), 15 - 5 * 99);
        D.due("a seventh", none.turn(64, 0), OverHill.BAD);
    }

    private static void shared(OverHill x, int lo, int need, int water, int f, int g) {
        D.due("share(" + lo + ", " + need + ", " + water + ", 0)", x.share(lo, need, water, 0), f);
        D.due("share(" + lo + ", " + need + ", " + water + ", 1)", x.share(lo, need, water, 1), g);
    }

    private static void promise30() {
        OverHill x = LayingsTest.hill();
        LayingsTest.lay(x, 0, 0, 0, 0, 1, 0, 0, 1, 1, 1);
        LayingsTest.lay(x, 1, 0, 1, 0, 1, 0, 0, 1, 1, 1);
        x.laying(2, 1);
        // Both of the first have 253 for 6000; the third one has 600 for 0, and none for more.
        shared(x, 1, 6000, 600, 253, 253);
        shared(x, 1, 6000, 506, 253, 253);
        shared(x, 1, 6000, 505, 253, 252);
        shared(x, 100, 6000, 501, 251, 250);
        shared(x, 1, 6000, 1, 1, 0);
        shared(x, 1, 6000, 0, 0, 0);
        shared(x, 2, 6000, 600, 253, 0);
        shared(x, 200, 6000, 600, 0, 253);
        shared(x, 2, 6000, 100, 100, 0);
        shared(x, 200, 6000, 100, 0, 100);
        shared(x, 201, 8711, 600, 0, 0);
        shared(x, 2, 0, 600, 300, 300);
        x.height(1, 999);
        x.height(1, 10);
        Due.table(x, "e1:3000,2900,1000,0");
        // The second one: 3000 and less; at 0 .. 100 its own flow is the lesser one.
        int own = x.flow(1, 500);
        shared(x, 1, 500, 600, 600 - own, own);
        shared(x, 100, 500, 600, own, 600 - own);
        shared(x, 100, 500, 2 * own + 1, own, own + 1);
        int[][] bad = {{0, 0, 0, 0}, {202, 0, 0, 0}, {-1, 0, 0, 0}, {3, 0, 0, 0}, {300, 0, 0, 0}, {-100, 0, 0, 0},
            {1, -1, 0, 0}, {1, 100000, 0, 0}, {1, 0, -1, 0}, {1, 0, 601, 0}, {1, 0, 0, -1}, {1, 0, 0, 2},
            {Integer.MAX_VALUE, 0, 0, 0}, {Integer.MIN_VALUE, 0, 0, 0}};
        for (int[] of : bad) {
            D.due("share(" + of[0] + ", " + of[1] + ", " + of[2] + ", " + of[3] + ")",
                    x.share(of[0], of[1], of[2], of[3]), OverHill.BAD);
        }
    }

    private static void promises31And33() {
        OverHill x = new OverHill();
        int[][] bad = {{0, 0}, {100, 0}, {-1, 0}, {1, -1}, {1, 1000000}};
        for (int[] of : bad) {
            D.due("thing(" + of[0] + ", " + of[1] + ")", x.thing(of[0], of[1]), OverHill.BAD);
        }
        for (int i = 1; i <= 9; i++) {
            D.due("thing " + i, x.thing(i % 2 == 0 ? 1 : 99, i % 2 == 0 ? 0 : 999999), i);
        }
        D.due("a tenth", x.thing(1, 1), OverHill.FULL);
        D.due("BAD ahead of FULL", x.thing(0, 1), OverHill.BAD);
        D.due("9 things", x.count(6), 9);
        D.due("unthing()", x.unthing(), 9);
        D.due("unthing()", x.unthing(), 0);
        D.due("none is told", x.cart(9, 0, 0), OverHill.STATE);
        D.due("one again", x.thing(1, 1), 1);
    }

    private static void packed(OverHill x, int most, int chances, int sum, int set) {
        D.due("cart(" + most + ", " + chances + ", 1) first", x.cart(most, chances, 1), set);
        D.due("cart(" + most + ", " + chances + ", 0)", x.cart(most, chances, 0), sum);
        D.due("cart(" + most + ", " + chances + ", 1)", x.cart(most, chances, 1), set);
    }

    private static void promise32() {
        OverHill x = new OverHill();
        int[][] bad = {{-1, 0, 0}, {0, -1, 0}, {0, 1030301, 0}, {0, 0, -1}, {0, 0, 2}};
        for (int[] of : bad) {
            D.due("BAD ahead of STATE", x.cart(of[0], of[1], of[2]), OverHill.BAD);
        }
        D.due("none is told", x.cart(0, 0, 0), OverHill.STATE);
        x.thing(20, 102030);
        x.thing(30, 500010);
        x.thing(5, 20);
        for (int[] of : bad) {
            D.due("cart(" + of[0] + ", " + of[1] + ", " + of[2] + ")", x.cart(of[0], of[1], of[2]), OverHill.BAD);
        }
        int first = 101 * 101;
        packed(x, 0, 100 * first, 0, 0);
        packed(x, 4, 100, 0, 0);
        packed(x, 50, 100 * first, 6000, 3);
        packed(x, 49, 100 * first, 5000, 2);
        packed(x, 29, 100 * first, 1000, 1);
        packed(x, 99, 100 * 101, 2000, 1);
        packed(x, 99, 100, 6000, 7);
        packed(x, 99, 100 * 101 + 100, 5000 + 1000 + 2000, 7);
        packed(x, 99, 1030300, 6000 + 6000 + 2000, 7);
        packed(x, Integer.MAX_VALUE, 0, 0, 0);
        packed(x, 30, 100, 5000, 5);
        packed(x, 24, 100, 3000, 1);
        packed(x, 55, 50 * first + 25 * 101 + 10, 500 + 500 + 300 + 2500 + 100 + 200, 7);
        packed(x, Integer.MAX_VALUE, 0, 0, 0);
        D.due("the things stay", x.count(6), 3);
        OverHill like = new OverHill();
        like.thing(10, 10);
        like.thing(4, 5);
        like.thing(6, 5);
        like.thing(4, 5);
        packed(like, 10, 100, 1000, 10);
        packed(like, 4, 100, 500, 2);
        like.unthing();
        like.thing(7, 3);
        like.thing(7, 3);
        packed(like, 13, 1, 3, 1);
        like.unthing();
        like.thing(1, 9999);
        like.thing(1, 10000);
        packed(like, 2, first, 1, 2);
        packed(like, 2, 101, 99, 1);
        packed(like, 2, 1, 99, 1);
    }

    private static void promise34() {
        OverHill x = LayingsTest.hill();
        int l = LayingsTest.lay(x, 1, 1, 0, 1, 1, 0, 0);
        D.due("new hose", x.old(l), 1000000);
        x.bore(1, 2, 10);
        D.due("two of ten", x.old(l), 810000);
        x.bore(0, 2, 1);
        D.due("and two of one", x.old(l), 793881);
        x.part(l, 1, 0, 0);
        x.part(l, 1, 0, 1);
        x.bore(1, 2, 9);
        D.due("bore by bore, each cut", x.old(l), 658727);
        x.bore(1, 2, 99);
        D.due("hardly", x.old(l), 0);
        int two = LayingsTest.lay(x, 2, 1, 0, 1);
        D.due("four of ninety-nine", x.old(two), 0);
        x.bore(1, 2, 90);
        D.due("four of ninety", x.old(two), 100);
        D.due("no parts", x.old(x.laying(0, 0)), 1000000);
        D.due("laying -1", x.old(-1), OverHill.BAD);
        D.due("laying 3", x.old(3), OverHill.BAD);
    }

    private static void promise35() {
        OverHill x = new OverHill();
        x.point(5);
        x.engine(1, 1);
        x.load(3);
        D.due("none of these are changes", x.undo(), OverHill.STATE);
        x.height(0, 6);
        x.bore(1, 0, 7);
        x.bore(1, 1, 8);
        x.bore(1, 2, 9);
        D.due("4 may be undone", x.count(7), 4);
        x.height(0, 6);
        x.bore(1, 1, 8);
        x.bore(1, 2, 100);
        D.due("the same, and what is BAD, is none", x.count(7), 4);
        D.due("the age", x.undo(), 3);
        D.due("was 0", x.bore(1, 2, 0), 0);
        D.due("the store", x.undo(), 2);
        D.due("was 30", x.bore(1, 1, 30), 30);
        D.due("the most", x.undo(), 1);
        D.due("was 20000", x.bore(1, 0, 20000), 20000);
        D.due("the height", x.undo(), 0);
        D.due("was 5", x.height(0, 5), 5);
        D.due("no more", x.undo(), OverHill.STATE);
        D.due("none", x.count(7), 0);
    }

    private static void promise36() {
        OverHill x = new OverHill();
        x.point(5);
        D.due("none was undone", x.redo(), OverHill.STATE);
        x.height(0, 6);
        x.height(0, 7);
        x.bore(2, 2, 9);
        D.due("none was undone yet", x.redo(), OverHill.STATE);
        x.undo();
        x.undo();
        x.undo();
        D.due("two more", x.redo(), 2);
        D.due("6 again; the same is no change", x.height(0, 6), 6);
        D.due("one may be undone", x.count(7), 1);
        D.due("one more", x.redo(), 1);
        D.due("7 again", x.height(0, 7), 7);
        D.due("no more", x.redo(), 0);
        D.due("9 again", x.bore(2, 2, 9), 9);
        D.due("none", x.redo(), OverHill.STATE);
        x.undo();
        x.undo();
        D.due("another comes behind", x.height(0, 8), 6);
        D.due("so none can be done again", x.redo(), OverHill.STATE);
        D.due("to 6", x.undo(), 1);
        D.due("to 8", x.redo(), 0);
        D.due("8 again", x.height(0, 8), 8);
    }

    private static void fortyAreKept() {
        OverHill x = new OverHill();
        x.point(0);
        for (int i = 1; i <= 45; i++) {
            x.height(0, i);
            D.due("changes", x.count(7), Math.min(i, 40));
        }
        for (int i = 39; i >= 0; i--) {
            D.due("undo", x.undo(), i);
        }
        D.due("the first five are not kept", x.undo(), OverHill.STATE);
        D.due("it is 5", x.height(0, 5), 5);
        for (int i = 39; i >= 0; i--) {
            D.due("redo", x.redo(), i);
        }
        D.due("it is 45", x.height(0, 45), 45);
        D.due("40 again", x.count(7), 40);
        OverHill y = new OverHill();
        y.point(0);
        // Changes of height and age by turns: the first three of 43 are not kept.
        for (int i = 1; i <= 43; i++) {
            D.due("by turns", i % 2 == 1 ? y.height(0, i) : y.bore(2, 2, i), Math.max(0, i - 2));
        }
        for (int i = 0; i < 39; i++) {
            y.undo();
        }
        D.due("the fourth, an age, stands", y.bore(2, 2, 4), 4);
        D.due("the third, a height, stands", y.height(0, 3), 3);
        D.due("the fourth", y.undo(), 0);
        D.due("the second stands", y.bore(2, 2, 2), 2);
        for (int i = 39; i >= 0; i--) {
            D.due("redo", y.redo(), i);
        }
        D.due("the last age", y.bore(2, 2, 42), 42);
        D.due("the last height", y.height(0, 43), 43);
    }
}
