/**
 * The third part of the document's terms, and promises 19 to 23: each sentence that names a
 * boundary case has a test of its own, with the sentence's words at its head.
 */
public final class MostSentencesTest {
    private static final Due D = new Due();
    private static final int BAD = OverHill.BAD, NOT = OverHill.NOT, BIG = OverHill.BIG, VOID = OverHill.VOID;
    private static final int MIN = Integer.MIN_VALUE, MAX = Integer.MAX_VALUE;

    public static void main(String[] args) {
        sixWays();
        fourEngines();
        anyBore();
        inThisOrder();
        oneAheadOfTheFirstWay();
        oneAheadOfEachWayAtMost();
        fewerWaysThanEngines();
        tubsStay();
        tubAheadOfTheEngine();
        tubAtTheEnd();
        tubsOfAnotherLaying();
        mostStarvesBelowZero();
        mostByTheHoseThatThereIs();
        hoseNoMoreThanStore();
        hoseInTwoLines();
        storeForThisLayingAlone();
        burstsAreNotAsked();
        mostEitherWayAlong();
        greatestForNeed();
        notNone();
        greatestAheadOfFirst();
        firstByBores();
        thenByPlaces();
        greaterBoresBeforeGreaterPlaces();
        decimalDigits();
        placesWithoutEngines();
        mostWithoutParts();
        mostRefused();
        worthOfAPart();
        worthWhereNotIsNone();
        worthOfJoined();
        worthRefused();
        helps();
        helpsNot();
        helpsKeepsItsKind();
        helpsOfAFullOne();
        helpsRefused();
        goesOneLineIsLeft();
        goesElseNone();
        goesRefused();
        changedUp();
        changedOfTwoLines();
        changedRefused();
        D.end();
    }

    /** THE MOST: flow, bores, places. */
    private static void most(String what, OverHill x, int laying, int need, int flow, int bores, int places) {
        D.due(what + ": flow", x.most(laying, need, 0), flow);
        D.due(what + ": bores", x.most(laying, need, 1), bores);
        D.due(what + ": places", x.most(laying, need, 2), places);
        D.due(what + ": flow again", x.most(laying, need, 0), flow);
    }

    private static void none(String what, OverHill x, int laying, int need) {
        most(what, x, laying, need, NOT, NOT, NOT);
    }

    private static void big(String what, OverHill x, int laying) {
        most(what, x, laying, 0, BIG, BIG, BIG);
    }

    private static void sixWays() {
        D.sentence("at most 6 WAYS, else BIG");
        for (int kind = 0; kind < 6; kind++) {
            OverHill x = Made.row(1, 1, 1, 1, 1, 1, 1);
            int l = x.laying(kind, 0);
            for (int way = 0; way < 6; way++) {
                x.part(l, 1, way, 2);
            }
            most("six", x, l, 0, 600, 0, 0);
            x.part(l, 1, 6, 0);
            big("seven", x, l);
            for (int i = 7; i < 24; i++) {
                x.part(l, 1, 6, 0);
            }
            big("twenty-four", x, l);
        }
    }

    private static void fourEngines() {
        D.sentence("at most 4 ENGINES, else BIG");
        OverHill x = Made.row(1, 1, 1, 1, 1, 1);
        Made.engines(x, 1, 1, 1, 1, 1);
        int l = x.laying(3, 0);
        for (int i = 0; i < 6; i++) {
            x.part(l, 1, i, 0);
            x.part(l, 2, 0, 0);
        }
        for (int i = 0; i < 4; i++) {
            x.part(l, 0, i, 0);
        }
        most("four, and tubs are not counted", x, l, 0, 600, 0, 123);
        x.part(l, 0, 4, 0);
        big("five", x, l);
        OverHill y = new OverHill();
        y.point(0);
        Made.engines(y, 1, 1, 1, 1, 1);
        int alone = Made.lay(y, 0, 0, 0, 0, 0, 0, 1, 0, 0, 2, 0, 0, 3, 0);
        none("four without a way", y, alone, 0);
        y.part(alone, 0, 4, 0);
        big("five without a way", y, alone);
    }

    private static void anyBore() {
        D.sentence("with the same WAYS, each by any BORE");
        for (int bore = 0; bore < 3; bore++) {
            OverHill x = Made.row(10, 10);
            for (int other = 0; other < 3; other++) {
                if (other != bore) {
                    Made.losesFlow(x, other);
                }
            }
            Made.engines(x, 1000);
            int laid = (bore + 1) % 3;
            int l = Made.lay(x, 0, 0, 0, 0, 0, 1, 0, laid, 1, 1, laid);
            D.due("as it lies", x.flow(l, 0), 50);
            most("by bore " + bore, x, l, 0, 600, bore == 0 ? 0 : 11 * bore, 0);
            D.due("it lies as it lay", x.of(l, 301), laid);
            D.due("it lies as it lay", x.flow(l, 0), 50);
        }
    }

    private static void inThisOrder() {
        D.sentence("and all its ENGINES, in this order");
        for (int first = 0; first < 2; first++) {
            OverHill x = Made.row(1, 1);
            Made.engines(x, 1000, 2000);
            x.height(1, 35);
            x.height(2, 35);
            int l = Made.lay(x, 0, 0, 0, first, 0, 1, 0, 0, 0, 1 - first, 0, 1, 1, 0);
            // 35 feet take 1505: behind the one that lifts 1000 the second one starves.
            if (first == 1) {
                most("2000 first", x, l, 1495, 600, 0, 1);
                none("2000 first, more wanted", x, l, 1496);
            } else {
                none("1000 first", x, l, 0);
            }
        }
    }

    private static void oneAheadOfTheFirstWay() {
        D.sentence("each ahead of any WAY (one at least ahead of the first WAY, if there are ENGINES)");
        OverHill x = Made.row(10, 10);
        Made.engines(x, 100, 100);
        int l = Made.lay(x, 4, 0, 1, 0, 0, 0, 0, 0, 1, 1, 0);
        Made.stores(x, 30, 0, 0);
        D.due("as it lies it takes 30", x.of(l, 3), 30);
        none("ahead of the first it takes 40", x, l, 0);
        Made.stores(x, 40, 0, 0);
        most("ahead of the first", x, l, 0, 600, 0, 0);
        OverHill y = Made.row(10, 10);
        Made.engines(y, 100);
        y.height(1, 1);
        y.height(2, 1);
        int up = Made.lay(y, 0, 0, 1, 0, 0, 0, 0, 0, 1, 1, 0);
        D.due("as it lies the engine starves", y.flow(up, 0), NOT);
        most("ahead of the first it lifts over", y, up, 57, 600, 0, 0);
        none("100 less 43", y, up, 58);
        int behind = Made.lay(x, 0, 0, 1, 0, 0, 0, 1, 0);
        most("one behind the last comes to the first", x, behind, 100, 600, 0, 0);
    }

    private static void oneAheadOfEachWayAtMost() {
        D.sentence("at most one ahead of each WAY");
        OverHill x = Made.row(1, 1, 1, 1);
        Made.engines(x, 100, 100, 100, 100);
        x.height(1, 3);
        x.height(2, 3);
        x.height(3, 3);
        x.height(4, 3);
        int l = Made.lay(x, 0, 0, 0, 0, 0, 0, 1, 0, 1, 0, 0, 1, 1, 0, 1, 2, 0, 1, 3, 0);
        D.due("as it lies two stand ahead of the first", x.flow(l, 71), 600);
        none("one alone lifts 3 feet no more", x, l, 0);
        x.height(1, 2);
        most("100 less 86 are left for the second", x, l, 71, 600, 0, 1);
        x.part(l, 0, 2, 0);
        most("three", x, l, 171, 600, 0, 12);
        x.part(l, 0, 3, 0);
        most("four", x, l, 271, 600, 0, 123);
    }

    private static void fewerWaysThanEngines() {
        D.sentence("THE MOST with fewer WAYS than ENGINES: NOT");
        OverHill x = Made.row(1, 1);
        Made.engines(x, 100, 100, 100);
        int l = Made.lay(x, 0, 0, 0, 0, 0, 0, 1, 0, 1, 0, 0);
        D.due("as it lies", x.flow(l, 200), 600);
        none("one way, two engines", x, l, 0);
        x.part(l, 1, 1, 0);
        most("two ways, two engines", x, l, 200, 600, 0, 1);
        x.part(l, 0, 2, 0);
        none("two ways, three engines", x, l, 0);
        OverHill y = Made.row(1);
        Made.engines(y, 1);
        none("no way, one engine", y, Made.lay(y, 0, 0, 0, 0, 0), 0);
    }

    private static void tubsStay() {
        D.sentence("TUBS stay where they are between WAYS");
        OverHill x = Made.row(1, 1, 1);
        Made.engines(x, 400, 100);
        x.height(1, 9);
        x.height(2, 9);
        x.height(3, 9);
        int l = Made.lay(x, 3, 0, 0, 0, 0, 1, 0, 0, 2, 0, 0, 1, 1, 0, 1, 2, 0);
        // 13 are left ahead of the tub, none behind it.
        most("0 behind the tub", x, l, 0, 600, 0, 0);
        none("1 behind the tub", x, l, 1);
        x.part(l, 0, 1, 0);
        most("the second engine behind it", x, l, 100, 600, 0, 1);
        none("no more than the second one lifts", x, l, 101);
        x.height(1, 10);
        none("-30 ahead of the tub: it starves", x, l, 0);
        x.height(1, 9);
        x.height(2, 10);
        most("a foot up behind it", x, l, 100, 600, 0, 1);
        x.height(3, 12);
        none("three feet up: 100 less 129", x, l, 0);
    }

    private static void tubAheadOfTheEngine() {
        D.sentence("a TUB ahead of a WAY stands ahead of the ENGINE there");
        OverHill x = Made.row(1, 1);
        Made.engines(x, 100, 30);
        int l = Made.lay(x, 3, 0, 0, 0, 0, 2, 0, 0, 1, 0, 0);
        D.due("as it lies the tub takes all", x.flow(l, 1), NOT);
        most("the tub first", x, l, 100, 600, 0, 0);
        x.part(l, 0, 1, 0);
        x.part(l, 2, 0, 0);
        x.part(l, 1, 1, 0);
        D.due("as it lies the second tub takes all", x.flow(l, 1), NOT);
        most("the second tub ahead of the second engine", x, l, 30, 600, 0, 1);
        none("the first one's 100 are gone", x, l, 31);
    }

    private static void tubAtTheEnd() {
        D.sentence("TUBS stay where they are (behind the last WAY)");
        OverHill x = Made.row(1);
        Made.engines(x, 100, 100);
        int l = Made.lay(x, 3, 0, 0, 0, 0, 1, 0, 0, 2, 0, 0);
        most("0 behind it", x, l, 0, 600, 0, 0);
        none("1 behind it", x, l, 1);
        x.height(1, 3);
        none("-29 ahead of it: it starves", x, l, 0);
        int tubs = Made.lay(x, 3, 0, 2, 0, 0, 2, 0, 0);
        most("tubs alone", x, tubs, 0, 600, 0, 0);
        none("tubs alone give nothing", x, tubs, 1);
        x.height(0, 3);
        x.part(tubs, 1, 0, 0);
        most("a way behind tubs", x, tubs, 0, 600, 0, 0);
    }

    private static void tubsOfAnotherLaying() {
        D.sentence("THE MOST of a LAYING: with the same WAYS, TUBS stay where they are (of this one alone)");
        OverHill x = Made.row(1, 1, 1);
        Made.engines(x, 100, 100);
        int tubbed = Made.lay(x, 3, 0, 0, 0, 0, 2, 0, 0, 1, 0, 0, 2, 0, 0, 1, 1, 0, 2, 0, 0, 1, 2, 0, 2, 0, 0);
        int line = Made.lay(x, 1, 0, 0, 1, 0, 1, 0, 0, 1, 1, 0, 1, 2, 0);
        most("with tubs", x, tubbed, 0, 600, 0, 0);
        most("the next one has none", x, line, 100, 600, 0, 0);
        most("with tubs again", x, tubbed, 0, 600, 0, 0);
        most("one with a way less has none", x, Made.lay(x, 0, 0, 1, 0, 0, 1, 1, 0), 0, 600, 0, 0);
    }

    private static void mostStarvesBelowZero() {
        D.sentence("THE MOST: nothing STARVES (an ENGINE with a PRESSURE below 0 ahead of it, a TUB likewise)");
        for (int lift = 9; lift <= 10; lift++) {
            OverHill x = Made.row(1, 1);
            for (int bore = 0; bore < 3; bore++) {
                Made.table(x, "b" + bore + ":10");
            }
            Made.engines(x, lift, 100, lift);
            int line = Made.lay(x, 0, 0, 0, 0, 0, 1, 0, 0, 0, 1, 0, 1, 1, 0);
            int tubbed = Made.lay(x, 3, 0, 0, 2, 0, 1, 0, 0, 2, 0, 0);
            if (lift == 10) {
                most("0 ahead of the second engine", x, line, 90, 600, 0, 1);
                most("0 ahead of the tub", x, tubbed, 0, 600, 0, 0);
            } else {
                none("-1 ahead of the second engine", x, line, 0);
                none("-1 ahead of the tub", x, tubbed, 0);
            }
        }
    }

    private static void mostByTheHoseThatThereIs() {
        D.sentence("THE MOST: PRESSURE by each BORE that STORE lets be laid, ENGINES where they stand");
        OverHill x = Made.row(10, 10, 10);
        Made.table(x, "b0:10");
        Made.stores(x, 30, 0, 0);
        Made.engines(x, 100, 100, 110, 11);
        int l = Made.lay(x, 0, 0, 0, 0, 0, 0, 1, 0, 1, 0, 0, 1, 1, 0, 1, 2, 0);
        none("each way takes 100: the third has none", x, l, 0);
        Made.table(x, "e1:200");
        most("200 for two of them", x, l, 0, 600, 0, 1);
        none("none is left", x, l, 1);
        Made.stores(x, 30, 10, 0);
        Made.table(x, "e1:100");
        most("the last by the better hose", x, l, 0, 600, 1, 1);
        Made.stores(x, 30, 9, 0);
        none("9 of it for 10", x, l, 0);
        int tubbed = Made.lay(x, 3, 0, 0, 2, 0, 1, 0, 0, 2, 0, 0, 0, 3, 0, 1, 1, 0);
        none("behind the tub 11 less 100", x, tubbed, 0);
        Made.table(x, "e3:99");
        none("behind the tub 99 less 100", x, tubbed, 0);
        Made.table(x, "e3:100");
        most("behind the tub 100 less 100", x, tubbed, 0, 600, 0, 1);
    }

    private static void hoseNoMoreThanStore() {
        D.sentence("so that HOSE is no more than STORE");
        OverHill x = Made.row(10, 20);
        int l = Made.lay(x, 0, 0, 1, 0, 0, 1, 1, 0);
        Made.stores(x, 30, 0, 0);
        most("just enough", x, l, 0, 600, 0, 0);
        Made.stores(x, 29, 0, 0);
        none("one too few", x, l, 0);
        Made.stores(x, 29, 9, 0);
        none("9 for 10", x, l, 0);
        Made.stores(x, 29, 10, 0);
        most("10 for 10", x, l, 0, 600, 10, 0);
        Made.stores(x, 10, 19, 20);
        most("each by another", x, l, 0, 600, 2, 0);
        Made.stores(x, 0, 0, 30);
        most("all by the third", x, l, 0, 600, 22, 0);
        Made.stores(x, 0, 0, 29);
        none("one too few of the third", x, l, 0);
        Made.stores(x, 9, 9, 9);
        none("no way goes", x, l, 0);
    }

    private static void hoseInTwoLines() {
        D.sentence("HOSE (twice those that lie in two lines) no more than STORE");
        OverHill x = Made.row(10, 20);
        Made.engines(x, 0, 0);
        int two = Made.lay(x, 2, 0, 1, 0, 0, 1, 1, 0);
        Made.stores(x, 60, 0, 0);
        most("twice 30", x, two, 0, 600, 0, 0);
        Made.stores(x, 59, 0, 0);
        none("one too few", x, two, 0);
        int joined = Made.lay(x, 4, 0, 0, 0, 0, 1, 0, 0, 1, 1, 0, 0, 1, 0);
        Made.stores(x, 50, 0, 0);
        most("10 and twice 20", x, joined, 0, 600, 0, 1);
        Made.stores(x, 49, 0, 0);
        none("one too few", x, joined, 0);
    }

    private static void storeForThisLayingAlone() {
        D.sentence("STORE is looked at for this LAYING's HOSE alone");
        OverHill x = Made.row(30);
        int one = Made.lay(x, 0, 0, 1, 0, 0);
        int other = Made.lay(x, 0, 0, 1, 0, 0);
        Made.stores(x, 30, 0, 0);
        most("30 for the one", x, one, 0, 600, 0, 0);
        most("30 for the other", x, other, 0, 600, 0, 0);
        D.due("laying asks no store", x.part(one, 1, 0, 0), 2);
        D.due("flow asks no store", x.flow(one, 0), 600);
        none("60 for the one", x, one, 0);
    }

    private static void burstsAreNotAsked() {
        D.sentence("(BURSTS are not asked)");
        OverHill x = Made.row(1);
        Made.engines(x, 99999);
        int l = Made.lay(x, 0, 0, 0, 0, 0, 1, 0, 0);
        for (int bore = 0; bore < 3; bore++) {
            x.bore(bore, 0, 0);
        }
        D.due("it bursts", x.bound(l, 0), NOT);
        most("all the same", x, l, 99999, 600, 0, 0);
    }

    private static void mostEitherWayAlong() {
        D.sentence("THE MOST: with the same WAYS (either way along)");
        OverHill x = Made.points(0, 2, 2);
        x.way(1, 0, 1);
        x.way(1, 2, 1);
        for (int bore = 0; bore < 3; bore++) {
            Made.table(x, "b" + bore + ":0");
        }
        Made.engines(x, 100, 10);
        int up = Made.lay(x, 0, 0, 0, 0, 0, 1, 0, 0, 1, 1, 0);
        most("two feet up, against the telling", x, up, 14, 600, 0, 0);
        none("100 less 86", x, up, 15);
        int down = Made.lay(x, 0, 2, 0, 1, 0, 1, 1, 0, 1, 0, 0);
        most("two feet down", x, down, 96, 600, 0, 0);
        none("10 and 86", x, down, 97);
        x.height(0, 1);
        most("a foot up since", x, up, 57, 600, 0, 0);
        most("a foot down since", x, down, 53, 600, 0, 0);
    }

    private static void greatestForNeed() {
        D.sentence("the greatest FLOW for NEED");
        OverHill x = Made.row(1);
        for (int bore = 0; bore < 3; bore++) {
            Made.losesFlow(x, bore);
        }
        Made.engines(x, 600);
        int l = Made.lay(x, 0, 0, 0, 0, 0, 1, 0, 2);
        int[] flows = {0, 1, 2, 299, 300, 301, 598, 599, 600};
        for (int flow : flows) {
            most("for " + (600 - flow), x, l, 600 - flow, flow, 0, 0);
        }
        none("for 601", x, l, 601);
    }

    private static void notNone() {
        D.sentence("THE MOST; NOT: none");
        OverHill x = Made.row(1);
        Made.engines(x, 100);
        int l = Made.lay(x, 0, 0, 0, 0, 0, 1, 0, 0);
        none("more than it lifts", x, l, 101);
        none("the most that may be wanted", x, l, 99999);
        x.height(1, 999);
        none("too high", x, l, 0);
        x.height(1, 0);
        Made.stores(x, 0, 0, 0);
        none("no hose", x, l, 0);
    }

    private static void greatestAheadOfFirst() {
        D.sentence("the greatest FLOW; The first such");
        OverHill x = Made.row(10, 10);
        Made.losesFlow(x, 0);
        Made.losesFlow(x, 1);
        Made.engines(x, 1000);
        int l = Made.lay(x, 0, 0, 0, 0, 0, 1, 0, 0, 1, 1, 0);
        most("greater bores, for more comes", x, l, 0, 600, 22, 0);
        Made.stores(x, 30, 30, 10);
        most("one way by the better bore", x, l, 0, 100, 2, 0);
        Made.stores(x, 30, 30, 9);
        most("none by it", x, l, 0, 50, 0, 0);
        most("0 gallons by any", x, l, 1000, 0, 0, 0);
    }

    private static void firstByBores() {
        D.sentence("The first such: by BORES as digits (the first WAY the highest)");
        OverHill x = Made.row(10, 10, 10);
        int l = Made.lay(x, 0, 0, 1, 0, 2, 1, 1, 2, 1, 2, 2);
        most("all by 0", x, l, 0, 600, 0, 0);
        Made.stores(x, 20, 10, 10);
        most("the last by 1", x, l, 0, 600, 1, 0);
        Made.stores(x, 10, 20, 10);
        most("two by 1", x, l, 0, 600, 11, 0);
        Made.stores(x, 10, 10, 10);
        most("each by another", x, l, 0, 600, 12, 0);
        Made.stores(x, 0, 10, 20);
        most("none by 0", x, l, 0, 600, 122, 0);
        Made.stores(x, 10, 0, 20);
        most("none by 1", x, l, 0, 600, 22, 0);
        Made.stores(x, 0, 0, 30);
        most("all by 2", x, l, 0, 600, 222, 0);
        OverHill y = Made.row(20, 10, 10);
        int longFirst = Made.lay(y, 0, 0, 1, 0, 0, 1, 1, 0, 1, 2, 0);
        Made.stores(y, 20, 20, 0);
        most("the long one by 0", y, longFirst, 0, 600, 11, 0);
        Made.stores(y, 19, 20, 20);
        most("the long one by 1, those behind it by 0 and 2", y, longFirst, 0, 600, 102, 0);
    }

    private static void thenByPlaces() {
        D.sentence("then by ENGINES' places as digits (WAYS ahead of which they stand)");
        OverHill x = Made.row(10, 10, 10);
        Made.engines(x, 0, 0);
        int line = Made.lay(x, 0, 0, 0, 0, 0, 1, 0, 0, 1, 1, 0, 1, 2, 0, 0, 1, 0);
        most("01 of 01 and 02", x, line, 0, 600, 0, 1);
        OverHill y = Made.row(10, 10, 10);
        Made.engines(y, 0, 0);
        int joined = Made.lay(y, 4, 0, 0, 0, 0, 1, 0, 0, 0, 1, 0, 1, 1, 0, 1, 2, 0);
        Made.stores(y, 40, 30, 0);
        most("places 02 by bores 000 ahead of places 01 by bores 001", y, joined, 0, 600, 0, 2);
        Made.stores(y, 50, 30, 0);
        most("both by bores 000", y, joined, 0, 600, 0, 1);
        OverHill z = Made.row(10, 10, 10);
        Made.engines(z, 100, 100);
        z.height(1, 2);
        z.height(2, 5);
        z.height(3, 5);
        int up = Made.lay(z, 0, 0, 0, 0, 0, 0, 1, 0, 1, 0, 0, 1, 1, 0, 1, 2, 0);
        // Behind the first way 14, behind the second without an engine -115.
        most("ahead of the second way 114 less 129, ahead of the third it starves", z, up, 0, NOT, NOT, NOT);
        z.height(2, 4);
        z.height(3, 4);
        most("14, 114, 28", z, up, 28, 600, 0, 1);
        none("29 is one more", z, up, 29);
    }

    private static void greaterBoresBeforeGreaterPlaces() {
        D.sentence("by BORES as digits, then by ENGINES' places as digits");
        OverHill x = Made.row(1, 1, 1, 1, 1);
        Made.table(x, "b0:10");
        Made.engines(x, 5, 20, 0);
        x.height(0, 1);
        x.height(1, 1);
        int l = Made.lay(x, 0, 0, 0, 0, 0, 1, 0, 1, 0, 1, 0, 1, 1, 1, 0, 2, 0, 1, 2, 1, 1, 3, 1, 1, 4, 1);
        // By bore 0 the first way leaves -5: no second engine there; the next goes down a foot, 28 are there.
        most("places 023 by bores 0, not 012 or 014 by greater ones", x, l, 0, 600, 0, 23);
        D.due("18 at the end", x.most(l, 18, 1), 0);
        D.due("one more takes a better hose", x.most(l, 19, 1), 1);
        D.due("its places", x.most(l, 19, 2), 23);
    }

    private static void decimalDigits() {
        D.sentence("BORES, places are decimal digits; places are from 0 among the WAYS, the first ENGINE's the highest");
        OverHill x = Made.row(1, 2, 4, 8, 16, 30);
        Made.engines(x, 0, 0, 0, 0);
        int l = x.laying(0, 0);
        for (int i = 0; i < 6; i++) {
            x.part(l, 1, i, 0);
        }
        Made.stores(x, 0, 31, 30);
        most("five by 1, the last by 2", x, l, 0, 600, 111112, 0);
        Made.stores(x, 1, 30, 30);
        most("0, then 1, the last by 2", x, l, 0, 600, 11112, 0);
        Made.stores(x, 30, 0, 31);
        most("30 and 31 to the last length: 2, 4, 8, 16 by 0", x, l, 0, 600, 200002, 0);
        OverHill y = Made.row(1, 1, 1, 1, 1, 1);
        Made.engines(y, 200, 50, 50, 50);
        int[] heights = {0, 4, 4, 4, 5, 6, 7};
        for (int i = 0; i < heights.length; i++) {
            y.height(i, heights[i]);
        }
        int up = y.laying(4, 0);
        for (int i = 0; i < 6; i++) {
            y.part(up, 1, i, 0);
            if (i < 4) {
                y.part(up, 0, i, 0);
            }
        }
        Made.stores(y, 7, 0, 0);
        most("the last one ahead of way 5 alone takes one length more", y, up, 0, 600, 0, 125);
    }

    private static void placesWithoutEngines() {
        D.sentence("places (2; 0 without ENGINES)");
        OverHill x = Made.row(1);
        most("a way alone", x, Made.lay(x, 0, 0, 1, 0, 0), 0, 600, 0, 0);
        most("in two lines", x, Made.lay(x, 4, 0, 1, 0, 2), 0, 600, 0, 0);
        none("a way alone lifts nothing", x, 0, 1);
    }

    private static void mostWithoutParts() {
        D.sentence("FLOW without PARTS: PRESSURE is 0 at the end");
        OverHill x = Made.points(0);
        for (int kind = 0; kind < 6; kind++) {
            int l = x.laying(kind, 0);
            D.due("flow for 0", x.flow(l, 0), 600);
            D.due("flow for 1", x.flow(l, 1), NOT);
            D.due("bound for 0", x.bound(l, 0), 600);
            D.due("bound for 1", x.bound(l, 1), NOT);
            most("most for 0", x, l, 0, 600, 0, 0);
            none("most for 1", x, l, 1);
        }
    }

    private static void mostRefused() {
        D.sentence("most: BAD, BIG; NOT");
        OverHill x = Made.row(1);
        int l = Made.lay(x, 0, 0, 1, 0, 0);
        D.each("most of laying", new int[] {-1, 1, 19, 20, MIN, MAX}, g -> x.most(g, 0, 0), BAD);
        D.each("most for", new int[] {-1, 100000, MIN, MAX}, n -> x.most(l, n, 0), BAD);
        D.each("most(l, 0, what)", new int[] {-1, 3, MIN, MAX}, w -> x.most(l, 0, w), BAD);
        for (int i = 1; i < 7; i++) {
            x.part(l, 1, 0, 0);
        }
        D.due("BAD goes ahead of BIG", x.most(l, 100000, 0), BAD);
        D.due("BAD goes ahead of BIG", x.most(l, 0, 3), BAD);
        D.due("BIG goes ahead of NOT", x.most(l, 99999, 0), BIG);
    }

    private static void worthOfAPart() {
        D.sentence("WORTH of a PART that is an ENGINE: FLOW less that of the LAYING without it");
        OverHill x = Made.row(10, 10);
        Made.losesFlow(x, 0);
        Made.engines(x, 1000, 500);
        int l = Made.lay(x, 0, 0, 0, 0, 0, 1, 0, 0, 0, 1, 0);
        D.due("both: 1500 less 10 a gallon", x.flow(l, 400), 100);
        D.due("the first", x.worth(l, 0, 400), 100);
        D.due("the second", x.worth(l, 2, 400), 100 - 60);
        D.due("the second where it lifts what is lost", x.worth(l, 2, 0), 0);
        D.due("the first where the second starves without it", x.worth(l, 0, 0), 100);
    }

    private static void worthWhereNotIsNone() {
        D.sentence("WORTH (NOT is 0)");
        OverHill x = Made.points(0, 1, 0);
        x.way(0, 1, 1);
        x.way(1, 2, 1);
        Made.table(x, "b0:0");
        Made.engines(x, 40, 0);
        int l = Made.lay(x, 0, 0, 1, 0, 0, 0, 0, 0, 1, 1, 0);
        D.due("with it nothing comes, for it starves", x.flow(l, 0), NOT);
        D.due("less than nothing", x.worth(l, 1, 0), -600);
        D.due("neither with it nor without it", x.worth(l, 1, 1), 0);
        x.height(1, 0);
        D.due("with it for 40", x.worth(l, 1, 40), 600);
        D.due("without it for 0", x.worth(l, 1, 0), 0);
        int alone = Made.lay(x, 0, 0, 0, 1, 0);
        D.due("the only part: without it PRESSURE is 0", x.worth(alone, 0, 0), 0);
    }

    private static void worthOfJoined() {
        D.sentence("WORTH: FLOW less that of the LAYING without it (JOINED: WAYS behind the last ENGINE alone)");
        OverHill x = Made.row(10, 10);
        Made.losesFlow(x, 0);
        Made.engines(x, 900, 0);
        int l = Made.lay(x, 4, 0, 0, 0, 0, 1, 0, 0, 0, 1, 0, 1, 1, 0);
        D.due("one line and two: 10 f and 10 (f + 1) / 2", x.flow(l, 0), 60);
        D.due("without the second both ways lie in two", x.worth(l, 2, 0), 60 - 90);
        D.due("without the first the second starves but at 0", x.worth(l, 0, 0), 60);
        OverHill y = Made.row(10);
        Made.losesFlow(y, 0);
        Made.engines(y, 0);
        y.height(0, 10);
        int behind = Made.lay(y, 4, 0, 1, 0, 0, 0, 0, 0);
        D.due("430 through one line", y.flow(behind, 0), 43);
        D.due("without the only one it lies in two", y.worth(behind, 1, 0), 43 - 86);
    }

    private static void worthRefused() {
        D.sentence("WORTH of a PART. VOID: BAD");
        OverHill x = Made.row(1);
        Made.engines(x, 9);
        int l = Made.lay(x, 3, 0, 0, 0, 0, 1, 0, 0, 2, 0, 0);
        D.each("worth of laying", new int[] {-1, 1, 19, 20, MIN, MAX}, g -> x.worth(g, 0, 0), VOID);
        D.each("worth of part", new int[] {-1, 1, 2, 3, 24, MIN, MAX}, p -> x.worth(l, p, 0), VOID);
        D.each("worth for", new int[] {-1, 100000, MIN, MAX}, n -> x.worth(l, 0, n), VOID);
        D.due("worth of the one engine", x.worth(l, 0, 0), 0);
    }

    private static void helps() {
        D.sentence("HELPS: the PART ahead of which FLOW is greatest, and that; of like ones the first");
        OverHill x = Made.row(10, 10);
        Made.losesFlow(x, 0);
        Made.engines(x, 1000, 1000);
        int l = Made.lay(x, 0, 0, 0, 0, 0, 1, 0, 0, 0, 1, 0, 1, 1, 0);
        // A tub ahead of the second engine takes nothing that is wanted for 500.
        D.due("ahead of the first nothing is lost", x.helps(l, 500, 0), 0);
        D.due("flow then", x.helps(l, 500, 1), 75);
        D.due("flow without", x.flow(l, 500), 75);
        int way = Made.lay(x, 0, 0, 1, 0, 1, 1, 1, 1);
        D.due("of like ones the first", x.helps(way, 0, 0), 0);
        D.due("600 with a tub ahead of any", x.helps(way, 0, 1), 600);
        D.due("no part came", x.of(l, 1), 4);
    }

    private static void helpsNot() {
        D.sentence("HELPS; NOT: no FLOW anywhere");
        OverHill x = Made.row(1);
        Made.engines(x, 10);
        int l = Made.lay(x, 0, 0, 0, 0, 0, 1, 0, 0);
        D.due("the part for 11", x.helps(l, 11, 0), NOT);
        D.due("flow for 11", x.helps(l, 11, 1), NOT);
        Made.table(x, "b0:20");
        D.due("the part for 0", x.helps(l, 0, 0), NOT);
        D.due("flow for 0", x.helps(l, 0, 1), NOT);
        Made.table(x, "b0:10,11");
        D.due("0 gallons are a flow: the part", x.helps(l, 0, 0), 0);
        D.due("some come till a gallon loses more", x.helps(l, 0, 1), 49);
        Made.losesFlow(x, 0);
        D.due("0 gallons are a flow", x.helps(l, 10, 1), 0);
        D.due("0 gallons are a flow: the part", x.helps(l, 10, 0), 0);
    }

    private static void helpsKeepsItsKind() {
        D.sentence("HELPS (as of a TUBBED one): the LAYING keeps its KIND");
        int[] due = {60, 60, 120, 60, 120, 60};
        for (int kind = 0; kind < 6; kind++) {
            OverHill x = Made.row(10);
            Made.losesFlow(x, 0);
            Made.engines(x, 600);
            int l = Made.lay(x, kind, 0, 0, 0, 0, 1, 0, 0);
            D.due("kind " + kind, x.helps(l, 0, 1), due[kind]);
            D.due("its kind still", x.of(l, 0), kind);
        }
    }

    private static void helpsOfAFullOne() {
        D.sentence("HELPS: with a TUB ahead of each PART in turn (of 24)");
        OverHill x = Made.row(1);
        int l = x.laying(3, 0);
        for (int i = 0; i < 24; i++) {
            x.part(l, 1, 0, 0);
        }
        D.due("the part", x.helps(l, 0, 0), 0);
        D.due("flow", x.helps(l, 0, 1), 600);
        D.due("24 parts", x.of(l, 1), 24);
        D.due("the first one is a way", x.of(l, 100), 1);
    }

    private static void helpsRefused() {
        D.sentence("HELPS. BAD (also no PARTS)");
        OverHill x = Made.row(1);
        int l = Made.lay(x, 0, 0, 1, 0, 0);
        D.each("helps of laying", new int[] {-1, 2, 19, 20, MIN, MAX}, g -> x.helps(g, 0, 0), BAD);
        D.each("helps for", new int[] {-1, 100000, MIN, MAX}, n -> x.helps(l, n, 0), BAD);
        D.each("helps(l, 0, what)", new int[] {-1, 2, MIN, MAX}, w -> x.helps(l, 0, w), BAD);
        for (int kind = 0; kind < 6; kind++) {
            int empty = x.laying(kind, 0);
            D.due("no parts, kind " + kind, x.helps(empty, 0, 0), BAD);
            D.due("no parts, kind " + kind, x.helps(empty, 0, 1), BAD);
        }
    }

    private static void goesOneLineIsLeft() {
        D.sentence("GOES: a WAY (PART) bursts: of two lines one is left (all FLOW goes through it): FLOW then");
        OverHill x = Made.row(10, 10);
        Made.losesFlow(x, 0);
        Made.engines(x, 900, 0);
        int two = Made.lay(x, 2, 0, 0, 0, 0, 1, 0, 0, 1, 1, 0);
        D.due("20 (f + 1) / 2", x.flow(two, 0), 90);
        D.due("10 f and 10 (f + 1) / 2", x.goes(two, 1, 0), 60);
        D.due("the other one", x.goes(two, 2, 0), 60);
        D.due("as much as is wanted", x.goes(two, 1, 880), 1);
        D.due("one more", x.goes(two, 1, 881), 0);
        D.due("it lies in two still", x.flow(two, 0), 90);
        D.due("hose", x.of(two, 3), 40);
        int joined = Made.lay(x, 4, 2, 1, 1, 1, 0, 1, 0, 1, 0, 0);
        D.due("an engine that lifts nothing: 0 gallons", x.goes(joined, 2, 0), 0);
        Made.table(x, "e1:900");
        D.due("all 90 through one", x.goes(joined, 2, 0), 90);
        D.due("180 through two", x.flow(joined, 0), 180);
        x.bore(0, 0, 0);
        D.due("bursts are not asked", x.goes(two, 1, 0), 60);
    }

    private static void goesElseNone() {
        D.sentence("GOES: else 0; FLOW then (0, if none)");
        int[] due = {0, 0, 60, 0, 60, 0};
        for (int kind = 0; kind < 6; kind++) {
            OverHill x = Made.row(10);
            Made.losesFlow(x, 0);
            Made.engines(x, 600);
            int l = Made.lay(x, kind, 0, 0, 0, 0, 1, 0, 0);
            D.due("kind " + kind, x.goes(l, 1, 0), due[kind]);
            D.due("none comes hard enough, kind " + kind, x.goes(l, 1, 601), 0);
            D.due("none at all, kind " + kind, x.goes(l, 1, 99999), 0);
        }
        OverHill y = Made.row(1, 1);
        Made.engines(y, 600);
        int joined = Made.lay(y, 4, 0, 1, 0, 0, 0, 0, 0, 1, 1, 0);
        D.due("ahead of the last engine one line", y.goes(joined, 0, 0), 0);
        D.due("behind it two", y.goes(joined, 2, 0), 600);
    }

    private static void goesRefused() {
        D.sentence("GOES. BAD (the PART is no WAY)");
        OverHill x = Made.row(1);
        Made.engines(x, 9);
        int l = Made.lay(x, 3, 0, 0, 0, 0, 1, 0, 0, 2, 0, 0);
        D.each("goes of laying", new int[] {-1, 1, 19, 20, MIN, MAX}, g -> x.goes(g, 1, 0), BAD);
        D.each("goes of part", new int[] {-1, 0, 2, 3, 24, MIN, MAX}, p -> x.goes(l, p, 0), BAD);
        D.each("goes for", new int[] {-1, 100000, MIN, MAX}, n -> x.goes(l, 1, n), BAD);
        D.due("goes of the way", x.goes(l, 1, 0), 0);
    }

    private static void changedUp() {
        D.sentence("CHANGED: the LENGTHS of that WAY alone must fill: one minute for each 5 of them (up), and 1");
        OverHill x = Made.points(0, 0);
        int l = x.laying(1, 0);
        int[] lengths = {1, 2, 3, 4, 5, 6, 9, 10, 11, 14, 15, 16, 20, 21, 25, 26, 29, 30};
        int[] minutes = {2, 2, 2, 2, 2, 3, 3, 3, 4, 4, 4, 5, 5, 6, 6, 7, 7, 7};
        for (int i = 0; i < lengths.length; i++) {
            x.way(0, 1, lengths[i]);
            x.part(l, 1, i, 0);
        }
        for (int i = 0; i < lengths.length; i++) {
            D.due(lengths[i] + " lengths", x.changed(l, i), minutes[i]);
        }
    }

    private static void changedOfTwoLines() {
        D.sentence("CHANGED while it runs: minutes without water: 0 of two lines");
        int[] due = {3, 3, 0, 3, 0, 3};
        for (int kind = 0; kind < 6; kind++) {
            OverHill x = Made.row(7, 7);
            Made.engines(x, 1);
            int l = Made.lay(x, kind, 0, 1, 0, 0);
            D.due("kind " + kind, x.changed(l, 0), due[kind]);
            x.part(l, 0, 0, 0);
            D.due("ahead of an engine, kind " + kind, x.changed(l, 0), kind == 2 ? 0 : 3);
            x.part(l, 1, 1, 0);
            D.due("behind it, kind " + kind, x.changed(l, 2), due[kind]);
        }
    }

    private static void changedRefused() {
        D.sentence("CHANGED. BAD (the PART is no WAY)");
        OverHill x = Made.row(1);
        Made.engines(x, 9);
        int l = Made.lay(x, 3, 0, 0, 0, 0, 1, 0, 0, 2, 0, 0);
        D.each("changed of laying", new int[] {-1, 1, 19, 20, MIN, MAX}, g -> x.changed(g, 1), BAD);
        D.each("changed of part", new int[] {-1, 0, 2, 3, 24, MIN, MAX}, p -> x.changed(l, p), BAD);
        D.due("changed of the way", x.changed(l, 1), 2);
    }
}
