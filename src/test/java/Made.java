/** Objects made ready for the tests of sentences; what fails here ends the test at once. */
final class Made {
    static final int[] OUTSIDE = {-1, Integer.MIN_VALUE, Integer.MAX_VALUE};

    private Made() {
    }

    private static void must(String what, boolean held) {
        if (!held) {
            throw new IllegalStateException("could not be made: " + what);
        }
    }

    /** An object with points of these heights. */
    static OverHill points(int... heights) {
        OverHill x = new OverHill();
        for (int i = 0; i < heights.length; i++) {
            must("point " + i, x.point(heights[i]) == i);
        }
        return x;
    }

    /** Points on the flat with ways of so many lengths, each to the next; no bore loses anything. */
    static OverHill row(int... lengths) {
        OverHill x = points(new int[lengths.length + 1]);
        for (int i = 0; i < lengths.length; i++) {
            must("way " + i, x.way(i, i + 1, lengths[i]) == i);
        }
        for (int bore = 0; bore < 3; bore++) {
            table(x, "b" + bore + ":0");
        }
        return x;
    }

    static void table(OverHill x, String text) {
        must(text, Due.table(x, text) > 0);
    }

    /** A bore of which a length loses just as many hundredths as gallons come. */
    static void losesFlow(OverHill x, int bore) {
        table(x, "b" + bore + ":0,50,100,150,200,250,300,350,400,450,500,550,600");
    }

    /** Engines that lift so much each, at every flow. */
    static void engines(OverHill x, int... lifts) {
        for (int lift : lifts) {
            int engine = x.engine(100, 1);
            must("engine " + engine, engine >= 0);
            table(x, "e" + engine + ":" + lift);
        }
    }

    static void stores(OverHill x, int... stores) {
        for (int bore = 0; bore < stores.length; bore++) {
            must("store " + bore, x.bore(bore, 1, stores[bore]) >= 0);
        }
    }

    /** A laying of a kind from a point; parts as sort, number, bore. */
    static int lay(OverHill x, int kind, int point, int... parts) {
        int laying = x.laying(kind, point);
        must("laying of kind " + kind, laying >= 0);
        for (int i = 0; i < parts.length; i += 3) {
            must("part " + i / 3, x.part(laying, parts[i], parts[i + 1], parts[i + 2]) == i / 3 + 1);
        }
        return laying;
    }

    /** A row of a sort on a shelf. */
    static void shelf(OverHill x, int shelf, int sort, long... elements) {
        must("row", x.row(shelf, sort, elements.length) == 1);
        for (int i = 0; i < elements.length; i++) {
            must("element " + i, x.put(shelf, i, elements[i]) == 1);
        }
    }
}
