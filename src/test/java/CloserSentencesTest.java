/**
 * "Answers, of several the one named first" and the closer readings at the end of the document's
 * terms, as far as no other test of sentences holds them; objects that share nothing; 512 calls.
 */
public final class CloserSentencesTest {
    private static final Due D = new Due();
    private static final int BAD = OverHill.BAD, NOT = OverHill.NOT, FULL = OverHill.FULL, BIG = OverHill.BIG;
    private static final int STATE = OverHill.STATE, VOID = OverHill.VOID;
    private static final int MAX = Integer.MAX_VALUE;

    public static void main(String[] args) {
        constants();
        badAheadOfFull();
        badAheadOfState();
        badStateFull();
        badBigNot();
        badAheadOfRefusals();
        sixthDigit();
        lookedAtAsSoonAsItsDigitsEnd();
        numberOfATub();
        tubsOfHelpsAndMost();
        linesOfMost();
        memoryIsItsOwn();
        calls512();
        D.end();
    }

    private static void constants() {
        D.sentence("BAD (-1), NOT (-2), FULL (-3), BIG (-4), STATE (-5); VOID is -2000000000");
        D.due("BAD", BAD, -1);
        D.due("NOT", NOT, -2);
        D.due("FULL", FULL, -3);
        D.due("BIG", BIG, -4);
        D.due("STATE", STATE, -5);
        D.due("VOID", VOID, -2000000000);
    }

    private static void badAheadOfFull() {
        D.sentence("A method's own line names its answers in their order: BAD, FULL");
        OverHill x = new OverHill();
        for (int i = 0; i < 12; i++) {
            x.point(0);
        }
        for (int i = 0; i < 20; i++) {
            x.way(0, 1, 1);
            x.laying(0, 0);
            x.engine(1, 1);
            x.load(1);
            x.thing(1, 1);
        }
        for (int i = 0; i < 30; i++) {
            x.feed(4, 0);
        }
        D.due("point(0)", x.point(0), FULL);
        D.due("point(1000)", x.point(1000), BAD);
        D.due("way(0, 1, 1)", x.way(0, 1, 1), FULL);
        D.due("way(0, 0, 1)", x.way(0, 0, 1), BAD);
        D.due("way(0, 12, 1)", x.way(0, 12, 1), BAD);
        D.due("way(0, 1, 31)", x.way(0, 1, 31), BAD);
        D.due("engine(1, 1)", x.engine(1, 1), FULL);
        D.due("engine(1000, 1)", x.engine(1000, 1), BAD);
        D.due("engine(1, 0)", x.engine(1, 0), BAD);
        D.due("feed(1, 0)", x.feed(1, 0), FULL);
        D.due("feed(5, 0)", x.feed(5, 0), BAD);
        D.due("feed(0, 0)", x.feed(0, 0), BAD);
        D.due("laying(0, 0)", x.laying(0, 0), FULL);
        D.due("laying(6, 0)", x.laying(6, 0), BAD);
        D.due("laying(0, 12)", x.laying(0, 12), BAD);
        D.due("load(1)", x.load(1), FULL);
        D.due("load(0)", x.load(0), BAD);
        D.due("thing(1, 1)", x.thing(1, 1), FULL);
        D.due("thing(0, 1)", x.thing(0, 1), BAD);
        D.due("thing(1, 1000000)", x.thing(1, 1000000), BAD);
    }

    private static void badAheadOfState() {
        D.sentence("A method's own line names its answers in their order: BAD; STATE");
        OverHill x = new OverHill();
        D.due("minutes(1, 0)", x.minutes(1, 0), STATE);
        D.due("minutes(0, 0)", x.minutes(0, 0), BAD);
        D.due("minutes(1, 2)", x.minutes(1, 2), BAD);
        D.due("cart(0, 0, 0)", x.cart(0, 0, 0), STATE);
        D.due("cart(-1, 0, 0)", x.cart(-1, 0, 0), BAD);
        D.due("cart(0, -1, 0)", x.cart(0, -1, 0), BAD);
        D.due("cart(0, 0, -1)", x.cart(0, 0, -1), BAD);
    }

    private static void badStateFull() {
        D.sentence("part: BAD, STATE, FULL: 24");
        OverHill x = Made.row(1, 1);
        Made.engines(x, 1, 1);
        int l = Made.lay(x, 0, 0, 0, 0, 0);
        for (int i = 1; i < 24; i++) {
            x.part(l, 1, 0, 0);
        }
        int before = x.of(l, 2);
        D.due("at point", before, 1);
        D.due("FULL", x.part(l, 1, 1, 0), FULL);
        D.due("FULL", x.part(l, 0, 1, 0), FULL);
        D.due("STATE ahead of FULL", x.part(l, 0, 0, 0), STATE);
        D.due("BAD ahead of FULL: no such engine", x.part(l, 0, 2, 0), BAD);
        D.due("BAD ahead of FULL: no such way", x.part(l, 1, 2, 0), BAD);
        D.due("BAD ahead of FULL: no such bore", x.part(l, 1, 1, 3), BAD);
        D.due("BAD ahead of FULL: a tub of another kind", x.part(l, 2, 0, 0), BAD);
        D.due("BAD ahead of FULL: no such sort", x.part(l, 3, 0, 0), BAD);
        int three = x.laying(3, 2);
        for (int i = 0; i < 24; i++) {
            x.part(three, 2, 0, 0);
        }
        D.due("FULL of tubs", x.part(three, 2, 0, 0), FULL);
        D.due("BAD ahead of FULL: a way that does not lead on", x.part(three, 1, 0, 0), BAD);
        D.due("STATE ahead of FULL: it stands in another one", x.part(three, 0, 0, 0), STATE);
    }

    private static void badBigNot() {
        D.sentence("most: BAD, BIG; NOT");
        OverHill x = Made.row(1);
        int l = x.laying(0, 0);
        for (int i = 0; i < 7; i++) {
            x.part(l, 1, 0, 0);
        }
        D.due("BIG, though none would come", x.most(l, 99999, 0), BIG);
        D.due("BAD, though BIG: need", x.most(l, -1, 0), BAD);
        D.due("BAD, though BIG: what", x.most(l, 0, -1), BAD);
    }

    private static void badAheadOfRefusals() {
        D.sentence("BAD, -11 to -14; of several the one named first");
        OverHill x = new OverHill();
        D.due("row: BAD ahead of -14", x.row(-1, 0, -1), BAD);
        D.due("row: BAD ahead of -14", x.row(0, 9, -1), BAD);
        D.due("put: BAD ahead of -11", x.put(-1, 0, 0), BAD);
        D.due("put: -11 ahead of -13", x.put(0, -1, 0), -11);
        D.due("shift: BAD ahead of -11", x.shift(0, 0, 6, 0, -1), BAD);
        D.due("shift: -11 ahead of -13", x.shift(0, -1, 0, -1, -1), -11);
        D.due("taken: BAD ahead of -11", x.taken(0, 6), BAD);
        x.row(1, 0, 1);
        x.row(2, 1, 1);
        D.due("shift: -12 ahead of -13", x.shift(1, -1, 2, -1, -1), -12);
        D.due("shift: -11 ahead of -12", x.shift(2, 0, 0, 0, 0), -11);
        D.due("parts: BAD ahead of -12", x.parts(0, 2, 0, 1), BAD);
        x.point(0);
        x.laying(0, 0);
        D.due("parts: -12", x.parts(0, 2, -1, 1), -12);
        D.due("parts: BAD ahead of -12", x.parts(0, 2, 0, 21), BAD);
    }

    private static void sixthDigit() {
        D.sentence("A sixth digit is the FAULT itself, unless the five ahead break the order");
        OverHill x = new OverHill();
        x.engine(1, 1);
        String[] texts = {"b0:123456", "b0:000000", "b0:1,123456", "b0:12345,123456", "b0:12345,1234567", "b0:12346,123456",
            "b0:99999,123456", "b0:20000,00001234", "e0:123456", "e0:12345,123456", "e0:12344,123456", "e0:1,000001",
            "e0:1,000011", "e0:0,000001", "e0:1,000029", "b0:12345,123450,", "b0:1,123456,"};
        int[] faults = {8, 8, 10, 14, 14, 9, 9, 9, 8, 14, 9, 10, 10, 10, 5, 14, 10};
        for (int i = 0; i < texts.length; i++) {
            D.due(texts[i], Due.table(x, texts[i]), -100 - faults[i]);
        }
    }

    private static void lookedAtAsSoonAsItsDigitsEnd() {
        D.sentence("a number is looked at as soon as its digits end");
        OverHill x = new OverHill();
        x.engine(1, 1);
        String[] texts = {"b0:5,4x", "b0:5,4;6", "b0:5,4,", "b0:5,4,,", "b0:5,4", "e0:5,6x", "e0:5,6,", "b0:5,6x", "b0:5,6,",
            "b0:5,6,5x", "b0:1,1,1,1,1,1,1,1,1,1,1,1,0,1", "b0:1,1,1,1,1,1,1,1,1,1,1,1,0x", "b0:5,40,", "b0:50,4:"};
        int[] faults = {5, 5, 5, 5, 5, 5, 5, 6, 7, 7, 27, 27, 8, 6};
        for (int i = 0; i < texts.length; i++) {
            D.due(texts[i], Due.table(x, texts[i]), -100 - faults[i]);
        }
    }

    private static void numberOfATub() {
        D.sentence("A TUB's number is any; of() answers -1 for it");
        OverHill x = Made.points(0);
        int l = x.laying(3, 0);
        int[] any = {0, 1, 5, -1, 99, 1000000, Integer.MIN_VALUE, MAX};
        for (int i = 0; i < any.length; i++) {
            D.due("a tub of number " + any[i], x.part(l, 2, any[i], any[i]), i + 1);
            D.due("its number", x.of(l, 200 + i), -1);
            D.due("its bore", x.of(l, 300 + i), -1);
            D.due("its sort", x.of(l, 100 + i), 2);
        }
    }

    private static void tubsOfHelpsAndMost() {
        D.sentence("HELPS (as of a TUBBED one); it changes nothing");
        OverHill x = Made.row(1, 1);
        Made.engines(x, 100);
        for (int kind = 0; kind < 6; kind++) {
            int l = Made.lay(x, kind, 0, 1, 0, 0);
            D.due("kind " + kind, x.helps(l, 0, 0), 0);
            D.due("flow of kind " + kind, x.helps(l, 0, 1), 600);
            D.due("a part, as ahead", x.of(l, 1), 1);
            D.due("a tub comes to TUBBED ones alone", x.part(l, 2, 0, 0), kind == 3 ? 2 : BAD);
        }
    }

    private static void linesOfMost() {
        D.sentence("THE MOST: JOINED without an ENGINE: all WAYS lie in two lines");
        OverHill x = Made.row(10, 10);
        int l = Made.lay(x, 4, 0, 1, 0, 0, 1, 1, 0);
        Made.stores(x, 40, 0, 0);
        D.due("40 are enough", x.most(l, 0, 0), 600);
        Made.stores(x, 39, 0, 0);
        D.due("39 are not", x.most(l, 0, 0), NOT);
        Made.losesFlow(x, 1);
        Made.stores(x, 0, 40, 0);
        x.height(0, 1);
        x.height(1, 1);
        D.due("43 for 20 of (f + 1) / 2", x.most(l, 0, 0), 4);
        D.due("as it lies by bore 0", x.flow(l, 43), 600);
    }

    private static void memoryIsItsOwn() {
        D.sentence("All memory is the class's own");
        OverHill x = Made.row(1);
        OverHill y = new OverHill();
        for (int what = 0; what < 9; what++) {
            D.due("count " + what, y.count(what), 0);
        }
        D.due("its table", y.loses(0, 100), 10);
        x.bore(0, 2, 5);
        D.due("its age", y.bore(0, 2, 0), 0);
        D.due("its changes", y.undo(), STATE);
        x.row(0, 0, 1);
        D.due("its shelf", y.taken(0, 0), -11);
        x.feed(1, 'b');
        D.due("its tape", y.table(), -100);
        x.laying(4, 0);
        x.act(0, 3, 1);
        D.due("its trace", y.trace(0), BAD);
        y.point(9);
        D.due("the other one's point", x.height(0, 0), 0);
        D.due("the other one's trace", x.trace(0), 50);
    }

    private static void calls512() {
        D.sentence("An object is used for at most 512 calls");
        OverHill x = new OverHill();
        for (int call = 1; call <= 510; call++) {
            D.due("call " + call, x.bore(call % 3, 2, call % 7), call < 4 ? 0 : (call - 3) % 7);
        }
        D.due("call 511", x.undo(), 39);
        D.due("call 512", x.redo(), 0);
    }
}
