import java.util.function.Supplier;
import java.util.function.ToLongFunction;

/**
 * "What is answered so changes nothing": each call that is refused, on an object in which all is
 * told, leaves every answer as it is without that call. Also calls that only ask change nothing.
 */
public final class NothingChangesTest {
    private static final Due D = new Due();
    private static final int BAD = OverHill.BAD, NOT = OverHill.NOT, FULL = OverHill.FULL, BIG = OverHill.BIG;
    private static final int STATE = OverHill.STATE, VOID = OverHill.VOID;
    private static final long NONE = Long.MIN_VALUE;
    private static Supplier<OverHill> made;
    private static String due;

    public static void main(String[] args) {
        for (int undone = 0; undone < 2; undone++) {
            boolean half = undone == 1;
            from(() -> told(half));
            refusedOfGround();
            refusedOfLayings();
            refusedOfMost();
            refusedOfMinutes();
            refusedOfShelves();
            askedAlone();
        }
        from(() -> filled());
        refusedWhereFull();
        from(() -> new OverHill());
        refusedOfAnEmptyOne();
        D.end();
    }

    private static void from(Supplier<OverHill> how) {
        made = how;
        due = shown(made.get());
        D.holds("the same calls give the same answers", due.equals(shown(made.get())));
    }

    /** Some of all there is: layings of each kind, loads, things, rows, a tape, changes (two of them undone, perhaps). */
    private static OverHill told(boolean undone) {
        OverHill x = Made.points(0, 5, 9, 3);
        x.way(0, 1, 3);
        x.way(1, 2, 4);
        x.way(2, 3, 5);
        Made.engines(x, 1000, 500, 2000);
        Made.table(x, "b0:0,1,5");
        Made.table(x, "b1:1,2,3");
        Made.lay(x, 0, 0, 0, 0, 0, 1, 0, 0, 0, 1, 0, 1, 1, 1);
        Made.lay(x, 3, 0, 2, 0, 0, 1, 0, 2, 2, 0, 0);
        Made.lay(x, 4, 0, 1, 0, 0, 0, 2, 0, 1, 1, 0, 1, 2, 1);
        x.laying(2, 1);
        int seven = x.laying(1, 0);
        for (int i = 0; i < 7; i++) {
            x.part(seven, 1, 0, 0);
        }
        x.load(5);
        x.load(9);
        x.thing(3, 10203);
        x.thing(4, 30201);
        Made.shelf(x, 0, 0, 1, 0, 2, 3, 0, 0);
        Made.shelf(x, 1, 3, 5, -6, 7);
        x.keep(2, 2);
        Made.shelf(x, 3, 4, 1, 0);
        x.bore(0, 0, 15000);
        x.bore(1, 1, 20);
        x.bore(2, 2, 7);
        x.height(3, 4);
        if (undone) {
            x.undo();
            x.undo();
        }
        x.feed(3, 'b' | '1' << 8 | ':' << 16);
        x.act(2, 3, 7);
        return x;
    }

    /** All that can be full is full. */
    private static OverHill filled() {
        OverHill x = new OverHill();
        for (int i = 0; i < 12; i++) {
            x.point(i);
        }
        for (int i = 0; i < 20; i++) {
            x.way(i % 3, i % 3 + 1, 1);
            x.laying(i % 6, i % 3);
            x.engine(i, 1);
            x.load(i + 1);
            x.thing(i + 1, i);
        }
        x.part(0, 0, 0, 0);
        for (int i = 0; i < 23; i++) {
            x.part(0, 1, 0, 0);
        }
        for (int i = 1; i <= 41; i++) {
            x.height(0, i);
        }
        Made.shelf(x, 0, 0, 1, 0, 0);
        for (int i = 0; i < 30; i++) {
            x.feed(4, 0);
        }
        x.act(4, 3, 7);
        return x;
    }

    private static void refused(String call, long answer, ToLongFunction<OverHill> asked) {
        OverHill x = made.get();
        D.due(call, asked.applyAsLong(x), answer);
        String now = shown(x);
        D.holds(call + " changes nothing: " + now + " for " + due, now.equals(due));
    }

    /** A call that is no refusal, but only asks. */
    private static void asks(String call, ToLongFunction<OverHill> asked) {
        refused(call, asked.applyAsLong(made.get()), asked);
    }

    /** What an object answers; at the end all is asked that can be known by changing it alone. */
    private static String shown(OverHill x) {
        StringBuilder all = new StringBuilder();
        for (int what = 0; what < 9; what++) {
            all.append(x.count(what)).append(' ').append(x.trace(what)).append(' ');
        }
        for (int laying = 0; laying < 5; laying++) {
            showLaying(x, laying, all);
        }
        for (int shelf = 0; shelf < 4; shelf++) {
            for (int i = 0; i < 3; i++) {
                all.append(x.element(shelf, i)).append(' ');
            }
            all.append(x.element(shelf, 6)).append(' ').append(x.taken(shelf, 2)).append(' ');
        }
        all.append(x.minutes(1, 0)).append(' ').append(x.cart(99, 1030300, 0)).append(' ').append(x.cart(4, 7, 1));
        all.append(' ').append(x.soon(0, 0, 3)).append(' ').append(x.soon(1, 2, 0)).append(' ').append(x.turn(1, 3));
        for (int i = 0; i < 3; i++) {
            all.append(' ').append(x.loses(i, 70)).append(' ').append(x.lifts(i, 70));
        }
        showTape(x, all);
        showChanges(x, all);
        return all.toString();
    }

    private static void showLaying(OverHill x, int laying, StringBuilder all) {
        for (int what = 0; what < 6; what++) {
            all.append(x.of(laying, what)).append(' ');
        }
        for (int part = 0; part < 5; part++) {
            for (int which = 100; which <= 300; which += 100) {
                all.append(x.of(laying, which + part)).append(' ');
            }
        }
        all.append(x.flow(laying, 100)).append(' ').append(x.bound(laying, 100)).append(' ');
        all.append(x.old(laying)).append(' ').append(x.lasts(laying)).append("; ");
    }

    /** The tape is known by what goes on it, and by its fault. */
    private static void showTape(OverHill x, StringBuilder all) {
        all.append(" tape ").append(x.feed(2, '4' | '2' << 8)).append(' ').append(x.table()).append(' ');
        all.append(x.loses(0, 0)).append(' ').append(x.loses(1, 0)).append(' ');
    }

    private static void showChanges(OverHill x, StringBuilder all) {
        all.append(" changes");
        for (int i = 0; i < 3; i++) {
            all.append(' ').append(x.redo());
        }
        for (int i = 0; i < 42; i++) {
            all.append(' ').append(x.undo());
        }
        for (int i = 0; i < 3; i++) {
            all.append(' ').append(x.redo());
        }
        for (int point = 0; point < 5; point++) {
            all.append(' ').append(x.height(point, 777));
        }
        for (int bore = 0; bore < 3; bore++) {
            for (int what = 0; what < 3; what++) {
                all.append(' ').append(x.bore(bore, what, 77));
            }
        }
    }

    private static void refusedOfGround() {
        refused("point(1000)", BAD, x -> x.point(1000));
        refused("point(-1)", BAD, x -> x.point(-1));
        refused("height(4, 8)", BAD, x -> x.height(4, 8));
        refused("height(0, 1000)", BAD, x -> x.height(0, 1000));
        refused("way(1, 1, 5)", BAD, x -> x.way(1, 1, 5));
        refused("way(0, 4, 5)", BAD, x -> x.way(0, 4, 5));
        refused("way(0, 1, 31)", BAD, x -> x.way(0, 1, 31));
        refused("way(0, 1, 0)", BAD, x -> x.way(0, 1, 0));
        refused("bore(3, 0, 5)", BAD, x -> x.bore(3, 0, 5));
        refused("bore(0, 3, 5)", BAD, x -> x.bore(0, 3, 5));
        refused("bore(0, 0, 100000)", BAD, x -> x.bore(0, 0, 100000));
        refused("bore(0, 1, 100)", BAD, x -> x.bore(0, 1, 100));
        refused("bore(0, 2, 100)", BAD, x -> x.bore(0, 2, 100));
        refused("bore(0, 2, -1)", BAD, x -> x.bore(0, 2, -1));
        refused("engine(1000, 1)", BAD, x -> x.engine(1000, 1));
        refused("engine(1, 0)", BAD, x -> x.engine(1, 0));
        refused("engine(1, 10)", BAD, x -> x.engine(1, 10));
        refused("feed(0, 65)", BAD, x -> x.feed(0, 65));
        refused("feed(5, 65)", BAD, x -> x.feed(5, 65));
        refused("loses(0, 601)", BAD, x -> x.loses(0, 601));
        refused("loses(3, 0)", BAD, x -> x.loses(3, 0));
        refused("lifts(3, 0)", BAD, x -> x.lifts(3, 0));
        refused("lifts(0, -1)", BAD, x -> x.lifts(0, -1));
    }

    private static void refusedOfLayings() {
        refused("laying(6, 0)", BAD, x -> x.laying(6, 0));
        refused("laying(0, 4)", BAD, x -> x.laying(0, 4));
        refused("part(5, 0, 0, 0)", BAD, x -> x.part(5, 0, 0, 0));
        refused("part(0, 3, 0, 0)", BAD, x -> x.part(0, 3, 0, 0));
        refused("part(0, 0, 3, 0)", BAD, x -> x.part(0, 0, 3, 0));
        refused("part(0, 1, 0, 0)", BAD, x -> x.part(0, 1, 0, 0));
        refused("part(0, 1, 2, 3)", BAD, x -> x.part(0, 1, 2, 3));
        refused("part(0, 2, 0, 0)", BAD, x -> x.part(0, 2, 0, 0));
        refused("part(1, 0, 0, 0)", STATE, x -> x.part(1, 0, 0, 0));
        refused("part(2, 0, 2, 0)", STATE, x -> x.part(2, 0, 2, 0));
        refused("parts(5, 0, 0, 1)", BAD, x -> x.parts(5, 0, 0, 1));
        refused("parts(0, 6, 0, 1)", BAD, x -> x.parts(0, 6, 0, 1));
        refused("parts(0, 0, 0, 0)", BAD, x -> x.parts(0, 0, 0, 0));
        refused("parts(1, 0, 0, 21)", BAD, x -> x.parts(1, 0, 0, 21));
        refused("parts(1, 1, 0, 1)", -12, x -> x.parts(1, 1, 0, 1));
        refused("parts(1, 2, 0, 1)", -12, x -> x.parts(1, 2, 0, 1));
        refused("parts(1, 5, 0, 1)", 0, x -> x.parts(1, 5, 0, 1));
        refused("parts(1, 0, 4, 1)", 0, x -> x.parts(1, 0, 4, 1));
        refused("parts(1, 0, -1, 1)", 0, x -> x.parts(1, 0, -1, 1));
        refused("parts(1, 0, 3, 1)", 0, x -> x.parts(1, 0, 3, 1));
        refused("of(5, 0)", BAD, x -> x.of(5, 0));
        refused("of(0, 104)", BAD, x -> x.of(0, 104));
        refused("pressure(0, 4, 0)", VOID, x -> x.pressure(0, 4, 0));
        refused("pressure(0, 0, 601)", VOID, x -> x.pressure(0, 0, 601));
        refused("flow(0, 100000)", BAD, x -> x.flow(0, 100000));
        refused("flow(0, 99999)", NOT, x -> x.flow(0, 99999));
        refused("judge(0, 601, 0)", BAD, x -> x.judge(0, 601, 0));
        refused("judge(0, 0, 0)", NOT, x -> x.judge(0, 0, 0));
        refused("bound(5, 0)", BAD, x -> x.bound(5, 0));
        refused("bound(0, 99999)", NOT, x -> x.bound(0, 99999));
    }

    private static void refusedOfMost() {
        refused("most(0, 0, 3)", BAD, x -> x.most(0, 0, 3));
        refused("most(5, 0, 0)", BAD, x -> x.most(5, 0, 0));
        refused("most(4, 0, 0)", BIG, x -> x.most(4, 0, 0));
        refused("most(0, 99999, 1)", NOT, x -> x.most(0, 99999, 1));
        refused("worth(0, 1, 0)", VOID, x -> x.worth(0, 1, 0));
        refused("worth(0, 4, 0)", VOID, x -> x.worth(0, 4, 0));
        refused("helps(3, 0, 0)", BAD, x -> x.helps(3, 0, 0));
        refused("helps(0, 99999, 0)", NOT, x -> x.helps(0, 99999, 0));
        refused("helps(0, 0, 2)", BAD, x -> x.helps(0, 0, 2));
        refused("goes(0, 0, 0)", BAD, x -> x.goes(0, 0, 0));
        refused("goes(0, 4, 0)", BAD, x -> x.goes(0, 4, 0));
        refused("changed(1, 0)", BAD, x -> x.changed(1, 0));
        refused("changed(0, 4)", BAD, x -> x.changed(0, 4));
    }

    private static void refusedOfMinutes() {
        refused("load(0)", BAD, x -> x.load(0));
        refused("load(100)", BAD, x -> x.load(100));
        refused("minutes(0, 0)", BAD, x -> x.minutes(0, 0));
        refused("minutes(5, 0)", BAD, x -> x.minutes(5, 0));
        refused("minutes(1, 2)", BAD, x -> x.minutes(1, 2));
        refused("soon(3, 0, 1)", BAD, x -> x.soon(3, 0, 1));
        refused("soon(0, 4, 1)", BAD, x -> x.soon(0, 4, 1));
        refused("lasts(5)", BAD, x -> x.lasts(5));
        refused("turn(0, 0)", BAD, x -> x.turn(0, 0));
        refused("turn(8, 0)", BAD, x -> x.turn(8, 0));
        refused("turn(1, 100)", BAD, x -> x.turn(1, 100));
        refused("share(0, 0, 9, 0)", BAD, x -> x.share(0, 0, 9, 0));
        refused("share(5, 0, 9, 0)", BAD, x -> x.share(5, 0, 9, 0));
        refused("share(1, 0, 601, 0)", BAD, x -> x.share(1, 0, 601, 0));
        refused("thing(0, 0)", BAD, x -> x.thing(0, 0));
        refused("thing(100, 0)", BAD, x -> x.thing(100, 0));
        refused("thing(1, 1000000)", BAD, x -> x.thing(1, 1000000));
        refused("cart(-1, 0, 0)", BAD, x -> x.cart(-1, 0, 0));
        refused("cart(1, 1030301, 0)", BAD, x -> x.cart(1, 1030301, 0));
        refused("cart(1, 0, 2)", BAD, x -> x.cart(1, 0, 2));
        refused("old(5)", BAD, x -> x.old(5));
        refused("trace(-1)", BAD, x -> x.trace(-1));
        refused("count(9)", BAD, x -> x.count(9));
    }

    private static void refusedOfShelves() {
        refused("keep(0, 5)", BAD, x -> x.keep(0, 5));
        refused("keep(0, -2)", BAD, x -> x.keep(0, -2));
        refused("keep(6, 0)", BAD, x -> x.keep(6, 0));
        refused("row(0, 5, 1)", BAD, x -> x.row(0, 5, 1));
        refused("row(0, 1, 61)", BAD, x -> x.row(0, 1, 61));
        refused("row(0, 1, -1)", -14, x -> x.row(0, 1, -1));
        refused("row(2, 1, -1)", -14, x -> x.row(2, 1, -1));
        refused("row(5, 1, -1)", -14, x -> x.row(5, 1, -1));
        refused("put(6, 0, 9)", BAD, x -> x.put(6, 0, 9));
        refused("put(5, 0, 9)", -11, x -> x.put(5, 0, 9));
        refused("put(2, 0, 9)", -12, x -> x.put(2, 0, 9));
        refused("put(1, 3, 9)", -13, x -> x.put(1, 3, 9));
        refused("put(1, -1, 9)", -13, x -> x.put(1, -1, 9));
        refused("element(1, 3)", NONE, x -> x.element(1, 3));
        refused("element(2, 0)", NONE, x -> x.element(2, 0));
        refused("shift(0, 0, 6, 0, 1)", BAD, x -> x.shift(0, 0, 6, 0, 1));
        refused("shift(0, 0, 5, 0, 1)", -11, x -> x.shift(0, 0, 5, 0, 1));
        refused("shift(0, 0, 1, 0, 1)", -12, x -> x.shift(0, 0, 1, 0, 1));
        refused("shift(0, 0, 2, 0, 1)", -12, x -> x.shift(0, 0, 2, 0, 1));
        refused("shift(0, 0, 0, 3, 4)", -13, x -> x.shift(0, 0, 0, 3, 4));
        refused("shift(0, 4, 0, 0, 3)", -13, x -> x.shift(0, 4, 0, 0, 3));
        refused("shift(1, 0, 1, 1, -1)", -13, x -> x.shift(1, 0, 1, 1, -1));
        refused("taken(6, 0)", BAD, x -> x.taken(6, 0));
        refused("taken(5, 0)", -11, x -> x.taken(5, 0));
        refused("taken(2, 1)", -12, x -> x.taken(2, 1));
    }

    private static void askedAlone() {
        asks("loses(0, 70)", x -> x.loses(0, 70));
        asks("lifts(0, 70)", x -> x.lifts(0, 70));
        asks("of(0, 1)", x -> x.of(0, 1));
        asks("pressure(0, 3, 70)", x -> x.pressure(0, 3, 70));
        asks("flow(2, 100)", x -> x.flow(2, 100));
        asks("judge(1, 5, 100)", x -> x.judge(1, 5, 100));
        asks("bound(0, 100)", x -> x.bound(0, 100));
        asks("most(2, 100, 1)", x -> x.most(2, 100, 1));
        asks("worth(0, 2, 100)", x -> x.worth(0, 2, 100));
        asks("helps(0, 100, 1)", x -> x.helps(0, 100, 1));
        asks("goes(2, 3, 100)", x -> x.goes(2, 3, 100));
        asks("changed(0, 1)", x -> x.changed(0, 1));
        asks("minutes(2, 1)", x -> x.minutes(2, 1));
        asks("soon(0, 0, 3)", x -> x.soon(0, 0, 3));
        asks("lasts(0)", x -> x.lasts(0));
        asks("turn(7, 5)", x -> x.turn(7, 5));
        asks("share(2, 0, 600, 0)", x -> x.share(2, 0, 600, 0));
        asks("cart(5, 12345, 1)", x -> x.cart(5, 12345, 1));
        asks("old(2)", x -> x.old(2));
        asks("trace(0)", x -> x.trace(0));
        asks("element(0, 0)", x -> x.element(0, 0));
        asks("taken(2, 0)", x -> x.taken(2, 0));
        asks("count(0)", x -> x.count(0));
        asks("height(1, 5): the same number", x -> x.height(1, 5));
        asks("bore(0, 0, 15000): the same number", x -> x.bore(0, 0, 15000));
        asks("shift(0, 1, 0, 1, 3): to where they are", x -> x.shift(0, 1, 0, 1, 3));
    }

    private static void refusedWhereFull() {
        refused("point(5)", FULL, x -> x.point(5));
        refused("way(0, 1, 5)", FULL, x -> x.way(0, 1, 5));
        refused("engine(5, 5)", FULL, x -> x.engine(5, 5));
        refused("feed(1, 65)", FULL, x -> x.feed(1, 65));
        refused("feed(4, 65)", FULL, x -> x.feed(4, 65));
        refused("laying(0, 0)", FULL, x -> x.laying(0, 0));
        refused("part(0, 1, 0, 0)", FULL, x -> x.part(0, 1, 0, 0));
        refused("part(0, 0, 1, 0)", FULL, x -> x.part(0, 0, 1, 0));
        refused("part(0, 0, 0, 0)", STATE, x -> x.part(0, 0, 0, 0));
        refused("parts(0, 0, 0, 1)", 0, x -> x.parts(0, 0, 0, 1));
        refused("load(5)", FULL, x -> x.load(5));
        refused("thing(5, 5)", FULL, x -> x.thing(5, 5));
        refused("redo()", STATE, x -> x.redo());
        refused("most(0, 0, 0)", BIG, x -> x.most(0, 0, 0));
    }

    private static void refusedOfAnEmptyOne() {
        refused("undo()", STATE, x -> x.undo());
        refused("redo()", STATE, x -> x.redo());
        refused("minutes(1, 0)", STATE, x -> x.minutes(1, 0));
        refused("cart(1, 1, 1)", STATE, x -> x.cart(1, 1, 1));
        refused("unload()", 0, x -> x.unload());
        refused("unthing()", 0, x -> x.unthing());
        refused("table()", -100, x -> x.table());
        refused("act(0, 0, 5)", 0, x -> x.act(0, 0, 5));
        refused("laying(0, 0)", BAD, x -> x.laying(0, 0));
        refused("way(0, 1, 1)", BAD, x -> x.way(0, 1, 1));
        refused("keep(0, 0)", BAD, x -> x.keep(0, 0));
        refused("keep(0, -1)", 1, x -> x.keep(0, -1));
    }
}
