/** Promises 1 to 6: a new object, points, heights, ways, bores, engines. */
public final class GroundTest {
    private static final Due D = new Due();

    public static void main(String[] args) {
        promise1();
        promise2();
        promise3();
        promise4();
        promise5();
        promise6();
        D.end();
    }

    private static void promise1() {
        OverHill x = new OverHill();
        for (int what = 0; what <= 8; what++) {
            D.due("new: count " + what, x.count(what), 0);
        }
        D.due("new: height(0, 0)", x.height(0, 0), OverHill.BAD);
        D.due("new: lifts(0, 0)", x.lifts(0, 0), OverHill.BAD);
        D.due("new: of(0, 0)", x.of(0, 0), OverHill.BAD);
        D.due("new: undo()", x.undo(), OverHill.STATE);
        D.due("new: redo()", x.redo(), OverHill.STATE);
        D.due("new: trace(0)", x.trace(0), OverHill.BAD);
        D.due("new: taken(5, 0)", x.taken(5, 0), -11);
        OverHill other = new OverHill();
        x.point(5);
        D.due("objects share nothing", other.count(0), 0);
    }

    private static void promise2() {
        OverHill x = new OverHill();
        D.due("point(-1)", x.point(-1), OverHill.BAD);
        D.due("point(1000)", x.point(1000), OverHill.BAD);
        for (int i = 0; i < 12; i++) {
            D.due("point " + i, x.point(i % 2 == 0 ? 0 : 999), i);
        }
        D.due("a thirteenth", x.point(7), OverHill.FULL);
        D.due("BAD ahead of FULL", x.point(1000), OverHill.BAD);
        D.due("12 points", x.count(0), 12);
        D.due("the last one's height", x.height(11, 3), 999);
        D.due("points are no changes", x.count(7), 1);
    }

    private static void promise3() {
        OverHill x = new OverHill();
        x.point(10);
        D.due("no point 1", x.height(1, 5), OverHill.BAD);
        D.due("no point -1", x.height(-1, 5), OverHill.BAD);
        D.due("no point MAX", x.height(Integer.MAX_VALUE, 5), OverHill.BAD);
        D.due("-1 feet", x.height(0, -1), OverHill.BAD);
        D.due("1000 feet", x.height(0, 1000), OverHill.BAD);
        D.due("it was 10", x.height(0, 999), 10);
        D.due("it was 999", x.height(0, 0), 999);
        D.due("it was 0", x.height(0, 0), 0);
    }

    private static void promise4() {
        OverHill x = new OverHill();
        x.point(0);
        x.point(0);
        D.due("from one to itself", x.way(1, 1, 3), OverHill.BAD);
        D.due("from none", x.way(2, 1, 3), OverHill.BAD);
        D.due("from -1", x.way(-1, 1, 3), OverHill.BAD);
        D.due("to none", x.way(1, 2, 3), OverHill.BAD);
        D.due("to -1", x.way(1, -1, 3), OverHill.BAD);
        D.due("0 lengths", x.way(0, 1, 0), OverHill.BAD);
        D.due("31 lengths", x.way(0, 1, 31), OverHill.BAD);
        for (int i = 0; i < 20; i++) {
            D.due("way " + i, x.way(i % 2, 1 - i % 2, i == 0 ? 1 : 30), i);
        }
        D.due("a twenty-first", x.way(0, 1, 3), OverHill.FULL);
        D.due("BAD ahead of FULL", x.way(0, 0, 3), OverHill.BAD);
        D.due("20 ways", x.count(1), 20);
    }

    private static void promise5() {
        OverHill x = new OverHill();
        int[] first = {20000, 30, 0};
        int[] most = {99999, 99, 99};
        for (int bore = 0; bore < 3; bore++) {
            for (int what = 0; what < 3; what++) {
                D.due("below 0", x.bore(bore, what, -1), OverHill.BAD);
                D.due("above", x.bore(bore, what, most[what] + 1), OverHill.BAD);
                D.due("at first", x.bore(bore, what, most[what]), first[what]);
                D.due("the most", x.bore(bore, what, 0), most[what]);
                D.due("the least", x.bore(bore, what, bore + 1), 0);
            }
        }
        for (int bore = 0; bore < 3; bore++) {
            for (int what = 0; what < 3; what++) {
                D.due("each its own", x.bore(bore, what, bore + 1), bore + 1);
            }
        }
        D.due("bore -1", x.bore(-1, 0, 0), OverHill.BAD);
        D.due("bore 3", x.bore(3, 0, 0), OverHill.BAD);
        D.due("what -1", x.bore(0, -1, 0), OverHill.BAD);
        D.due("what 3", x.bore(0, 3, 0), OverHill.BAD);
    }

    private static void promise6() {
        OverHill x = new OverHill();
        D.due("fuel -1", x.engine(-1, 1), OverHill.BAD);
        D.due("fuel 1000", x.engine(1000, 1), OverHill.BAD);
        D.due("speed 0", x.engine(0, 0), OverHill.BAD);
        D.due("speed 10", x.engine(0, 10), OverHill.BAD);
        for (int i = 0; i < 6; i++) {
            D.due("engine " + i, x.engine(i % 2 == 0 ? 0 : 999, i % 2 == 0 ? 1 : 9), i);
        }
        D.due("a seventh", x.engine(5, 5), OverHill.FULL);
        D.due("BAD ahead of FULL", x.engine(5, 0), OverHill.BAD);
        D.due("6 engines", x.count(2), 6);
        D.due("all fuel", x.turn(63, 0), 3 * 999);
    }
}
