/** Promises 19 to 23: the most, worth, where a tub helps, a length that goes or is changed. */
public final class MostTest {
    private static final Due D = new Due();

    public static void main(String[] args) {
        promise19();
        mostOfJoined();
        mostOfTubbed();
        mostKeepsTheOrder();
        mostIsBig();
        promise20();
        promise21();
        promise22();
        promise23();
        D.end();
    }

    /** Five points on the flat, ways of 10 lengths each to the next; bores that lose 0, 100, 200. */
    private static OverHill flat() {
        OverHill x = new OverHill();
        for (int i = 0; i < 5; i++) {
            x.point(100);
        }
        for (int i = 0; i < 4; i++) {
            x.way(i, i + 1, 10);
        }
        for (int i = 0; i < 6; i++) {
            x.engine(10 * i, 1);
        }
        Due.table(x, "b0:0");
        Due.table(x, "b1:100");
        Due.table(x, "b2:200");
        return x;
    }

    private static void most(String what, OverHill x, int laying, int need, int... answers) {
        for (int i = 0; i < 3; i++) {
            D.due(what + ": most " + i, x.most(laying, need, i), answers[i]);
        }
    }

    private static void stores(OverHill x, int... stores) {
        for (int bore = 0; bore < 3; bore++) {
            x.bore(bore, 1, stores[bore]);
        }
    }

    private static void promise19() {
        OverHill x = flat();
        int not = OverHill.NOT;
        int l = LayingsTest.lay(x, 1, 1, 0, 2, 0, 0, 0, 1, 1, 2, 1, 2, 2);
        most("all by bore 0", x, l, 4000, 600, 0, 0);
        most("more is wanted", x, l, 4001, 599, 0, 0);
        most("the most that there is", x, l, 10000, 0, 0, 0);
        most("more than there is", x, l, 10001, not, not, not);
        stores(x, 20, 30, 30);
        most("two by bore 0", x, l, 4000, 500, 1, 0);
        most("any do", x, l, 0, 600, 1, 0);
        stores(x, 19, 10, 30);
        most("one by each", x, l, 4000, 300, 12, 0);
        stores(x, 9, 9, 29);
        most("too little hose", x, l, 0, not, not, not);
        x.bore(0, 0, 0);
        stores(x, 30, 30, 30);
        most("bursts are not asked", x, l, 4000, 600, 0, 0);
        D.due("the laying stays as it was", x.of(l, 302), 2);
        int[][] bad = {{-1, 0, 0}, {1, 0, 0}, {l, -1, 0}, {l, 100000, 0}, {l, 0, -1}, {l, 0, 3}};
        for (int[] of : bad) {
            D.due("most of what is not there", x.most(of[0], of[1], of[2]), OverHill.BAD);
        }
        x.part(l, 0, 1, 0);
        x.part(l, 0, 2, 0);
        most("three engines in three places", x, l, 12000, 600, 0, 12);
        x.part(l, 0, 3, 0);
        most("fewer ways than engines", x, l, 0, not, not, not);
        int empty = x.laying(0, 0);
        most("no parts", x, empty, 0, 600, 0, 0);
        most("no parts lack", x, empty, 1, not, not, not);
        int alone = LayingsTest.lay(x, 0, 0, 4, 0);
        most("an engine without a way", x, alone, 0, not, not, not);
        int way = LayingsTest.lay(x, 0, 1, 0, 2);
        most("a way without an engine", x, way, 0, 600, 0, 0);
    }

    private static void mostOfJoined() {
        OverHill x = flat();
        int l = LayingsTest.lay(x, 4, 0, 0, 0, 0, 1, 0, 1, 0, 2, 1, 1, 2, 1, 2, 2);
        stores(x, 50, 0, 0);
        most("two lines behind the second engine", x, l, 15000, 250, 0, 1);
        stores(x, 40, 0, 0);
        most("it must stand further on", x, l, 15000, 250, 0, 2);
        stores(x, 20, 20, 0);
        most("by two bores", x, l, 15000, 200, 1, 2);
        stores(x, 39, 0, 0);
        most("nowhere", x, l, 0, OverHill.NOT, OverHill.NOT, OverHill.NOT);
        OverHill y = flat();
        int two = LayingsTest.lay(y, 2, 1, 0, 2, 1, 1, 2);
        stores(y, 20, 20, 0);
        most("all in two lines", y, two, 0, OverHill.NOT, OverHill.NOT, OverHill.NOT);
        y.part(two, 0, 0, 0);
        most("twice the hose", y, two, 4000, 500, 1, 0);
        stores(y, 19, 40, 0);
        most("all by bore 1", y, two, 4000, 400, 11, 0);
        // Each of two lines loses 10 (f + 1) / 2 along a way, one line 10 f.
        Due.table(y, "b1:0,50,100,150,200,250,300,350,400,450,500,550,600");
        most("half through each line", y, two, 4000, 300, 11, 0);
        most("an odd flow is the dearer one", y, two, 9980, 0, 11, 0);
        most("an odd flow is the dearer one", y, two, 9960, 2, 11, 0);
        int joined = LayingsTest.lay(y, 4, 0, 1, 0, 1, 0, 1, 1, 1, 1);
        most("all behind the engine in two", y, joined, 4000, 300, 11, 0);
        y.part(joined, 0, 2, 0);
        most("the first way by the one line that bore 0 has", y, joined, 14000, 240, 1, 1);
        int three = LayingsTest.lay(y, 1, 0, 3, 0, 1, 0, 0, 1, 1, 0, 0, 4, 0);
        stores(y, 0, 40, 0);
        most("one line takes all", y, three, 14000, 150, 11, 1);
    }

    private static void mostOfTubbed() {
        OverHill x = flat();
        int l = LayingsTest.lay(x, 3, 0, 0, 0, 1, 0, 0, 0, 1, 0, 2, 0, 0, 1, 1, 0);
        D.due("as it stands the tub takes all", x.flow(l, 1), OverHill.NOT);
        most("the engine stands behind the tub", x, l, 5000, 500, 0, 1);
        x.part(l, 2, 0, 0);
        most("a tub at the end", x, l, 0, 600, 0, 1);
        most("a tub at the end lacks", x, l, 1, OverHill.NOT, OverHill.NOT, OverHill.NOT);
        int tub = LayingsTest.lay(x, 3, 2, 0, 0);
        most("a tub alone", x, tub, 0, 600, 0, 0);
        most("a tub alone lacks", x, tub, 1, OverHill.NOT, OverHill.NOT, OverHill.NOT);
        int up = LayingsTest.lay(x, 3, 1, 0, 0, 2, 0, 0, 1, 1, 0);
        most("ahead of the tub there is 0", x, up, 0, 600, 0, 0);
        x.height(1, 101);
        most("it starves", x, up, 0, OverHill.NOT, OverHill.NOT, OverHill.NOT);
        x.height(1, 99);
        most("behind it goes up", x, up, 0, OverHill.NOT, OverHill.NOT, OverHill.NOT);
    }

    private static void mostKeepsTheOrder() {
        for (int first = 4; first <= 5; first++) {
            OverHill x = flat();
            Due.table(x, "e4:1000");
            Due.table(x, "e5:2000");
            x.height(1, 135);
            int l = LayingsTest.lay(x, 1, 0, first, 0, 1, 0, 2, 0, 9 - first, 0, 1, 1, 2);
            // Over 35 feet the second one starves behind the one that lifts 1000.
            int most = first == 5 ? 600 : OverHill.NOT;
            most("both lift", x, l, 3000, most, first == 5 ? 0 : most, first == 5 ? 1 : most);
            most("both lift no more", x, l, 3001, OverHill.NOT, OverHill.NOT, OverHill.NOT);
        }
        OverHill y = flat();
        int tubbed = LayingsTest.lay(y, 3, 0, 0, 0, 1, 0, 0, 2, 0, 0, 1, 1, 0, 1, 2, 0);
        most("a tub ahead of the second way", y, tubbed, 0, 600, 0, 0);
        int line = LayingsTest.lay(y, 1, 0, 1, 0, 1, 0, 0, 1, 1, 0, 1, 2, 0);
        most("the next laying has none", y, line, 4000, 600, 0, 0);
        most("a way less", y, LayingsTest.lay(y, 1, 0, 2, 0, 1, 0, 0), 4000, 600, 0, 0);
    }

    private static void mostIsBig() {
        OverHill x = flat();
        int l = x.laying(1, 0);
        for (int i = 0; i < 6; i++) {
            x.part(l, 1, i % 4 < 2 ? i % 2 : 1 - i % 2, 0);
        }
        stores(x, 99, 0, 0);
        for (int i = 0; i < 4; i++) {
            x.part(l, 0, i, 0);
        }
        most("six ways, four engines", x, l, 16000, 600, 0, 123);
        x.part(l, 0, 4, 0);
        D.due("five engines", x.most(l, 0, 0), OverHill.BIG);
        D.due("BAD ahead of BIG", x.most(l, 0, 3), OverHill.BAD);
        int ways = x.laying(1, 0);
        for (int i = 0; i < 6; i++) {
            x.part(ways, 1, 0, 0);
        }
        D.due("six ways", x.most(ways, 0, 0), 600);
        x.part(ways, 1, 0, 0);
        for (int what = 0; what < 3; what++) {
            D.due("seven ways", x.most(ways, 0, what), OverHill.BIG);
        }
        int engines = LayingsTest.lay(x, 1, 0, 5, 0);
        D.due("NOT behind BIG", x.most(engines, 0, 0), OverHill.NOT);
    }

    private static void promise20() {
        OverHill x = flat();
        Due.table(x, "e0:1000");
        Due.table(x, "e1:500");
        int l = LayingsTest.lay(x, 1, 0, 0, 0, 1, 0, 0, 0, 1, 0, 1, 1, 0);
        D.due("both are wanted", x.worth(l, 0, 1200), 600);
        D.due("both are wanted", x.worth(l, 2, 1500), 600);
        D.due("one does", x.worth(l, 0, 500), 0);
        D.due("the first one does", x.worth(l, 2, 1000), 0);
        D.due("the second one does not", x.worth(l, 0, 1000), 600);
        D.due("both do not", x.worth(l, 0, 1501), 0);
        x.height(1, 110);
        D.due("without the first the second starves", x.worth(l, 0, 0), 600);
        D.due("over the top", x.worth(l, 2, 100), 0);
        int[][] bad = {{-1, 0, 0}, {1, 0, 0}, {l, -1, 0}, {l, 4, 0}, {l, 1, 0}, {l, 0, -1}, {l, 0, 100000}};
        for (int[] of : bad) {
            D.due("worth of what is not there", x.worth(of[0], of[1], of[2]), OverHill.VOID);
        }
        x.height(1, 130);
        int starved = LayingsTest.lay(x, 0, 1, 0, 0, 0, 2, 0, 1, 1, 0);
        D.due("it only starves", x.worth(starved, 1, 0), -600);
        OverHill y = flat();
        Due.table(y, "b0:0,10,20,30,40,50,60,70,80,90,100,110,120");
        Due.table(y, "e0:1000");
        Due.table(y, "e1:0");
        int joined = LayingsTest.lay(y, 4, 0, 0, 0, 1, 0, 0, 0, 1, 0, 1, 1, 0);
        // Along a way one line loses 10 (f / 5), each of two 10 ((f + 1) / 2 / 5).
        D.due("with it", y.flow(joined, 0), 338);
        D.due("an idle engine keeps a way in one line", y.worth(joined, 2, 0), 338 - 508);
    }

    private static void promise21() {
        OverHill x = flat();
        int l = LayingsTest.lay(x, 2, 0, 0, 0, 1, 0, 0, 1, 1, 0);
        D.due("nothing is lost ahead of the first", x.helps(l, 5000, 0), 0);
        D.due("flow then", x.helps(l, 5000, 1), 500);
        D.due("none comes", x.helps(l, 10001, 0), OverHill.NOT);
        D.due("none comes", x.helps(l, 10001, 1), OverHill.NOT);
        int empty = x.laying(3, 0);
        int[][] bad = {{-1, 0, 0}, {2, 0, 0}, {l, -1, 0}, {l, 100000, 0}, {l, 0, -1}, {l, 0, 2}, {empty, 0, 0}};
        for (int[] of : bad) {
            D.due("helps of what is not there", x.helps(of[0], of[1], of[2]), OverHill.BAD);
        }
        Due.table(x, "b0:0,10,20,30,40,50,60,70,80,90,100,110,120");
        D.due("two lines stay two lines", x.helps(l, 4000, 1), x.flow(l, 4000));
        for (int i = 3; i < 24; i++) {
            x.part(l, 1, 1, 0);
        }
        D.due("24 parts and a tub", x.helps(l, 0, 0), 0);
        D.due("no part came", x.of(l, 1), 24);
    }

    private static void promise22() {
        OverHill x = flat();
        Due.table(x, "b0:0,5,10,15,20,25,30,35,40,45,50,55,60");
        int l = LayingsTest.lay(x, 2, 0, 0, 0, 1, 0, 0, 1, 1, 0);
        // At 500 one line loses 50, each of two 25.
        D.due("both in two lines", x.flow(l, 4500), 500);
        D.due("one is left of the first", x.goes(l, 1, 4250), 500);
        D.due("one is left of the second", x.goes(l, 2, 4250), 500);
        D.due("none comes hard enough", x.goes(l, 1, 10001), 0);
        int line = LayingsTest.lay(x, 1, 1, 0, 0);
        D.due("it lies in one", x.goes(line, 0, 0), 0);
        int[][] bad = {{-1, 1, 0}, {2, 1, 0}, {l, 0, 0}, {l, -1, 0}, {l, 3, 0}, {l, 1, -1}, {l, 1, 100000}};
        for (int[] of : bad) {
            D.due("goes of what is not there", x.goes(of[0], of[1], of[2]), OverHill.BAD);
        }
        int ahead = LayingsTest.lay(x, 4, 1, 0, 0, 0, 3, 0);
        D.due("ahead of the engine in one", x.goes(ahead, 0, 0), 0);
        int joined = LayingsTest.lay(x, 4, 0, 1, 0, 1, 0, 0, 0, 2, 0, 1, 1, 0);
        D.due("ahead of the last engine in one", x.goes(joined, 1, 0), 0);
        D.due("behind it one is left", x.goes(joined, 3, 9000), 500);
    }

    private static void promise23() {
        OverHill x = new OverHill();
        x.point(0);
        x.point(0);
        x.engine(1, 1);
        int[] lengths = {1, 4, 5, 6, 10, 11, 30};
        int[] minutes = {2, 2, 2, 3, 3, 4, 7};
        int line = x.laying(1, 0);
        int two = x.laying(2, 0);
        for (int i = 0; i < lengths.length; i++) {
            x.way(0, 1, lengths[i]);
            x.part(line, 1, i, 0);
            x.part(two, 1, i, 0);
            D.due(lengths[i] + " lengths", x.changed(line, i), minutes[i]);
            D.due("of two lines", x.changed(two, i), 0);
        }
        int joined = LayingsTest.lay(x, 4, 1, 6, 0, 0, 0, 0, 1, 6, 0);
        D.due("ahead of the engine", x.changed(joined, 0), 7);
        D.due("behind the engine", x.changed(joined, 2), 0);
        int[][] bad = {{-1, 0}, {3, 0}, {joined, 1}, {joined, -1}, {joined, 3}};
        for (int[] of : bad) {
            D.due("changed of what is not there", x.changed(of[0], of[1]), OverHill.BAD);
        }
    }
}
