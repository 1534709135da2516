/**
 * The second part of the document's terms, and promises 11 to 18 (parts() with the shelves): each
 * sentence that names a boundary case has a test of its own, with the sentence's words at its head.
 */
public final class LayingSentencesTest {
    private static final Due D = new Due();
    private static final int BAD = OverHill.BAD, NOT = OverHill.NOT, FULL = OverHill.FULL;
    private static final int STATE = OverHill.STATE, VOID = OverHill.VOID, LACKS = 100;
    private static final int MIN = Integer.MIN_VALUE, MAX = Integer.MAX_VALUE;

    public static void main(String[] args) {
        layings();
        kinds();
        beginsAtAPoint();
        partsOfALaying();
        partsAreFull();
        sorts();
        engineOfAPart();
        wayFromWhereItIs();
        byABore();
        tubOfTubbedOnes();
        engineStandsOnce();
        twoLines();
        joinedLines();
        joinedWithoutAnEngine();
        aheadOfTheFirstPart();
        behindAnEngine();
        behindAWay();
        behindATub();
        greatPressures();
        pressureRefused();
        engineStarves();
        tubStarves();
        burstsAhead();
        burstsBehind();
        burstsByItsBore();
        need();
        greatestFlow();
        noFlow();
        allFlowsAreAsked();
        flowDoesNotAskBursts();
        judgedFirstPart();
        lacks();
        judgeRefused();
        bound();
        boundNot();
        flowAndBoundRefused();
        hose();
        ofALaying();
        ofAPart();
        ofRefused();
        D.end();
    }

    /** An object on the flat with ways 0-1, 1-2, 2-3 and three engines that lift 1000, 100, 10. */
    private static OverHill flat() {
        OverHill x = Made.row(1, 2, 3);
        Made.engines(x, 1000, 100, 10);
        return x;
    }

    private static void layings() {
        D.sentence("LAYINGS 0 .. 19, as they come: its number. FULL");
        OverHill x = flat();
        for (int i = 0; i < 20; i++) {
            D.due("laying " + i + " is not there yet", x.of(i, 0), BAD);
            D.due("laying " + i, x.laying(0, 0), i);
            D.due("layings", x.count(3), i + 1);
        }
        D.due("a twenty-first", x.laying(0, 0), FULL);
        D.due("layings", x.count(3), 20);
        D.due("laying 19 takes a part", x.part(19, 1, 0, 0), 1);
        D.due("laying 20 is not there", x.part(20, 1, 0, 0), BAD);
    }

    private static void kinds() {
        D.sentence("A LAYING of a KIND (0 .. 5). BAD");
        OverHill x = flat();
        D.each("laying of kind", new int[] {-1, 6, MIN, MAX}, k -> x.laying(k, 0), BAD);
        D.due("none came", x.count(3), 0);
        for (int kind = 0; kind < 6; kind++) {
            D.due("kind " + kind, x.laying(kind, 0), kind);
            D.due("its kind", x.of(kind, 0), kind);
        }
    }

    private static void beginsAtAPoint() {
        D.sentence("Each begins at a POINT. BAD");
        OverHill x = flat();
        D.each("laying from", new int[] {-1, 4, 11, 12, MIN, MAX}, p -> x.laying(0, p), BAD);
        D.due("none came", x.count(3), 0);
        for (int point = 0; point < 4; point++) {
            int l = x.laying(0, point);
            D.due("without parts it ends where it begins", x.of(l, 2), point);
        }
    }

    private static void partsOfALaying() {
        D.sentence("has PARTS 0 .. 23, told in order: how many it has");
        OverHill x = flat();
        int l = x.laying(3, 0);
        int[] told = {0, 1, 2, 1, 0, 2, 1, 0};
        int[] numbers = {2, 0, 7, 1, 0, 7, 2, 1};
        for (int i = 0; i < told.length; i++) {
            D.due("part " + i + " is not there yet", x.of(l, 100 + i), BAD);
            D.due("part " + i, x.part(l, told[i], numbers[i], 0), i + 1);
            D.due("parts", x.of(l, 1), i + 1);
        }
        for (int i = 0; i < told.length; i++) {
            D.due("sort of part " + i, x.of(l, 100 + i), told[i]);
            D.due("number of part " + i, x.of(l, 200 + i), told[i] == 2 ? -1 : numbers[i]);
        }
    }

    private static void partsAreFull() {
        D.sentence("PARTS 0 .. 23; FULL: 24");
        OverHill x = flat();
        int l = x.laying(3, 0);
        for (int i = 0; i < 24; i++) {
            D.due("part " + i, i % 2 == 0 ? x.part(l, 2, 0, 0) : x.part(l, 1, 0, 0), i + 1);
        }
        D.due("one more tub", x.part(l, 2, 0, 0), FULL);
        D.due("one more way", x.part(l, 1, 0, 0), FULL);
        D.due("one more engine", x.part(l, 0, 0, 0), FULL);
        D.due("24 parts", x.of(l, 1), 24);
        D.due("it ends where it ended", x.of(l, 2), 0);
        D.due("part 23 is there", x.of(l, 123), 1);
        D.due("part 24 is not", x.of(l, 124), BAD);
        int other = x.laying(0, 0);
        D.due("the engine that was refused stands nowhere", x.part(other, 0, 0, 0), 1);
    }

    private static void sorts() {
        D.sentence("an ENGINE (sort 0), a WAY (sort 1), a TUB (sort 2). BAD (no such)");
        OverHill x = flat();
        int l = x.laying(3, 0);
        D.each("part of sort", new int[] {-1, 3, 4, MIN, MAX}, s -> x.part(l, s, 0, 0), BAD);
        D.each("part of laying", new int[] {-1, l + 1, 19, 20, MIN, MAX}, g -> x.part(g, 0, 0, 0), BAD);
        D.due("none came", x.of(l, 1), 0);
        for (int sort = 0; sort < 3; sort++) {
            D.due("sort " + sort, x.part(l, sort, 0, 0), sort + 1);
        }
    }

    private static void engineOfAPart() {
        D.sentence("part: an ENGINE. BAD (no such)");
        OverHill x = flat();
        int l = x.laying(0, 0);
        D.each("engine", new int[] {-1, 3, 5, 6, MIN, MAX}, e -> x.part(l, 0, e, 0), BAD);
        D.due("none came", x.of(l, 1), 0);
        D.due("the last that there is", x.part(l, 0, 2, 0), 1);
        D.due("it moves on nowhere", x.of(l, 2), 0);
    }

    private static void wayFromWhereItIs() {
        D.sentence("a WAY (from the POINT where it is, either way along). BAD (a WAY that does not lead on)");
        OverHill x = flat();
        int l = x.laying(0, 1);
        D.each("way", new int[] {-1, 3, 19, 20, MIN, MAX}, w -> x.part(l, 1, w, 0), BAD);
        D.due("way 2 does not touch point 1", x.part(l, 1, 2, 0), BAD);
        D.due("none came", x.of(l, 1), 0);
        D.due("way 1 from its beginning", x.part(l, 1, 1, 0), 1);
        D.due("at point 2", x.of(l, 2), 2);
        D.due("way 0 does not touch point 2", x.part(l, 1, 0, 0), BAD);
        D.due("way 1 from its end", x.part(l, 1, 1, 0), 2);
        D.due("at point 1", x.of(l, 2), 1);
        D.due("an engine between", x.part(l, 0, 0, 0), 3);
        D.due("way 0 from its end", x.part(l, 1, 0, 0), 4);
        D.due("at point 0", x.of(l, 2), 0);
        D.due("way 1 does not touch point 0", x.part(l, 1, 1, 0), BAD);
        D.due("4 parts", x.of(l, 1), 4);
    }

    private static void byABore() {
        D.sentence("by a BORE (0 .. 2). BAD (no such)");
        OverHill x = flat();
        int l = x.laying(3, 0);
        D.each("a way by bore", new int[] {-1, 3, MIN, MAX}, b -> x.part(l, 1, 0, b), BAD);
        D.due("none came", x.of(l, 1), 0);
        for (int bore = 0; bore < 3; bore++) {
            D.due("a way by bore " + bore, x.part(l, 1, bore, bore), bore + 1);
            D.due("its bore", x.of(l, 300 + bore), bore);
        }
        D.due("an engine by any", x.part(l, 0, 0, MIN), 4);
        D.due("an engine by any", x.part(l, 0, 1, 3), 5);
        D.due("a tub by any", x.part(l, 2, 0, MAX), 6);
        for (int part = 3; part < 6; part++) {
            D.due("of others than ways -1", x.of(l, 300 + part), -1);
        }
    }

    private static void tubOfTubbedOnes() {
        D.sentence("a TUB (sort 2; of TUBBED ones alone). BAD (a TUB of another KIND)");
        OverHill x = flat();
        for (int kind = 0; kind < 6; kind++) {
            int l = x.laying(kind, 0);
            D.due("a tub of kind " + kind, x.part(l, 2, 0, 0), kind == 3 ? 1 : BAD);
            D.due("parts of kind " + kind, x.of(l, 1), kind == 3 ? 1 : 0);
        }
        D.due("a tub moves on nowhere", x.of(3, 2), 0);
    }

    private static void engineStandsOnce() {
        D.sentence("An ENGINE stands in one PART of all LAYINGS at most. STATE: the ENGINE stands in a LAYING");
        OverHill x = flat();
        int one = Made.lay(x, 0, 0, 0, 0, 0);
        int other = x.laying(4, 3);
        D.due("in the same one", x.part(one, 0, 0, 0), STATE);
        D.due("in another one", x.part(other, 0, 0, 0), STATE);
        D.due("none came", x.of(one, 1) + x.of(other, 1), 1);
        D.due("another engine in the same one", x.part(one, 0, 1, 0), 2);
        D.due("a third in another one", x.part(other, 0, 2, 0), 1);
        D.due("it stands there now", x.part(one, 0, 2, 0), STATE);
    }

    private static void twoLines() {
        D.sentence("TWO: each WAY is laid in two lines, each with (FLOW + 1) / 2");
        OverHill x = Made.row(1, 2);
        Made.losesFlow(x, 0);
        int l = Made.lay(x, 2, 0, 1, 0, 0, 1, 1, 0);
        int[] flows = {0, 1, 2, 3, 4, 99, 100, 101, 599, 600};
        for (int flow : flows) {
            int each = (flow + 1) / 2;
            D.due("behind the first at " + flow, x.pressure(l, 0, flow), -each);
            D.due("behind the second at " + flow, x.pressure(l, 1, flow), -3 * each);
        }
        int[] single = {0, 1, 3, 5};
        for (int kind : single) {
            int one = Made.lay(x, kind, 0, 1, 0, 0);
            D.due("kind " + kind + " in one line", x.pressure(one, 0, 99), -99);
            D.due("kind " + kind + " in one line", x.of(one, 3), 1);
        }
    }

    private static void joinedLines() {
        D.sentence("JOINED: WAYS behind the last ENGINE alone (are laid in two lines)");
        OverHill x = Made.row(1, 10, 1);
        Made.losesFlow(x, 0);
        Made.engines(x, 0, 0, 0);
        int l = x.laying(4, 0);
        x.part(l, 1, 0, 0);
        D.due("no engine yet: two lines", x.of(l, 3), 2);
        x.part(l, 0, 0, 0);
        D.due("now it is ahead of the last engine", x.of(l, 3), 1);
        D.due("one line ahead of it", x.pressure(l, 0, 99), -99);
        x.part(l, 1, 1, 0);
        D.due("the next one behind it", x.of(l, 3), 1 + 20);
        D.due("two lines behind it", x.pressure(l, 2, 99), -99 - 500);
        x.part(l, 0, 1, 0);
        D.due("between engines in one", x.of(l, 3), 1 + 10);
        D.due("one line between engines", x.pressure(l, 3, 99), -99 - 990);
        x.part(l, 1, 2, 0);
        x.part(l, 1, 2, 0);
        D.due("all behind the last one in two", x.of(l, 3), 1 + 10 + 2 + 2);
        D.due("all behind the last one in two", x.pressure(l, 5, 99), -99 - 990 - 50 - 50);
    }

    private static void joinedWithoutAnEngine() {
        D.sentence("JOINED without an ENGINE: all WAYS lie in two lines");
        OverHill x = Made.row(3, 5);
        Made.losesFlow(x, 0);
        int l = Made.lay(x, 4, 0, 1, 0, 0, 1, 1, 0);
        D.due("hose", x.of(l, 3), 16);
        D.due("behind the first", x.pressure(l, 0, 9), -15);
        D.due("behind the second", x.pressure(l, 1, 9), -40);
        D.due("changed", x.changed(l, 0), 0);
    }

    private static void aheadOfTheFirstPart() {
        D.sentence("PRESSURE ahead of the first PART is 0");
        OverHill x = Made.points(500, 500);
        x.way(0, 1, 1);
        Made.table(x, "b0:0");
        Made.engines(x, 7);
        D.due("a way that loses nothing", x.pressure(Made.lay(x, 0, 0, 1, 0, 0), 0, 0), 0);
        int engine = Made.lay(x, 3, 0, 0, 0, 0);
        D.due("an engine", x.pressure(engine, 0, 0), 7);
        D.due("it does not starve", x.judge(engine, 600, 0), NOT);
        int tub = Made.lay(x, 3, 0, 2, 0, 0);
        D.due("a tub does not starve", x.judge(tub, 600, 0), NOT);
    }

    private static void behindAnEngine() {
        D.sentence("Behind an ENGINE: as much more as it lifts");
        OverHill x = flat();
        int l = Made.lay(x, 0, 0, 0, 0, 0, 0, 2, 0, 0, 1, 0);
        D.due("one", x.pressure(l, 0, 600), 1000);
        D.due("two", x.pressure(l, 1, 600), 1010);
        D.due("three", x.pressure(l, 2, 600), 1110);
        Made.table(x, "e2:0");
        D.due("one that lifts nothing", x.pressure(l, 1, 600), 1000);
    }

    private static void behindAWay() {
        D.sentence("Behind a WAY: less LENGTHS times what one loses, and less 43 times the feet that it climbs "
                + "(more, if it goes down)");
        OverHill x = Made.points(0, 1, 999);
        x.way(0, 1, 30);
        x.way(2, 0, 1);
        Made.table(x, "b0:0");
        Made.table(x, "b1:7");
        D.due("a foot up", x.pressure(Made.lay(x, 0, 0, 1, 0, 0), 0, 0), -43);
        D.due("a foot down, the same way", x.pressure(Made.lay(x, 0, 1, 1, 0, 0), 0, 0), 43);
        D.due("999 feet up, against its telling", x.pressure(Made.lay(x, 0, 0, 1, 1, 0), 0, 0), -42957);
        D.due("999 feet down", x.pressure(Made.lay(x, 0, 2, 1, 1, 0), 0, 0), 42957);
        D.due("30 lengths and a foot up", x.pressure(Made.lay(x, 0, 0, 1, 0, 1), 0, 0), -210 - 43);
        D.due("30 lengths and a foot down", x.pressure(Made.lay(x, 0, 1, 1, 0, 1), 0, 0), -210 + 43);
        x.height(1, 0);
        D.due("on the flat", x.pressure(0, 0, 0), 0);
        D.due("on the flat it loses alone", x.pressure(4, 0, 0), -210);
    }

    private static void behindATub() {
        D.sentence("Behind a TUB: 0");
        OverHill x = Made.row(1, 1);
        Made.engines(x, 500);
        Made.table(x, "b1:9");
        int l = Made.lay(x, 3, 0, 0, 0, 0, 2, 0, 0, 1, 0, 1, 2, 0, 0, 2, 0, 0);
        D.due("ahead of the first", x.pressure(l, 0, 0), 500);
        D.due("behind the first: what there was is gone", x.pressure(l, 1, 0), 0);
        D.due("ahead of the second", x.pressure(l, 2, 0), -9);
        D.due("behind the second: what lacked is gone", x.pressure(l, 3, 0), 0);
        D.due("behind the third", x.pressure(l, 4, 600), 0);
    }

    private static void greatPressures() {
        D.sentence("(All ints that wrap.)");
        OverHill x = Made.points(0, 999);
        x.way(0, 1, 30);
        Made.table(x, "b0:99999");
        x.bore(0, 2, 99);
        int l = x.laying(0, 0);
        int due = 0;
        for (int i = 0; i < 24; i++) {
            x.part(l, 1, 0, 0);
            due = due - 30 * 198998 - (i % 2 == 0 ? 42957 : -42957);
            D.due("behind part " + i, x.pressure(l, i, 600), due);
        }
        D.due("the least that can be told", due, -143278560);
        Made.engines(x, 99999, 99999, 99999, 99999, 99999, 99999);
        int lifted = x.laying(0, 1);
        x.part(lifted, 1, 0, 1);
        for (int i = 0; i < 6; i++) {
            x.part(lifted, 0, i, 0);
        }
        D.due("the most that can be told", x.pressure(lifted, 6, 0), 42957 + 6 * 99999);
    }

    private static void pressureRefused() {
        D.sentence("PRESSURE behind a PART at a FLOW. VOID: BAD");
        OverHill x = flat();
        int l = Made.lay(x, 0, 0, 1, 0, 0, 1, 1, 0);
        int empty = x.laying(0, 0);
        D.each("of laying", new int[] {-1, 2, 19, 20, MIN, MAX}, g -> x.pressure(g, 0, 0), VOID);
        D.each("behind part", new int[] {-1, 2, 23, 24, MIN, MAX}, p -> x.pressure(l, p, 0), VOID);
        D.each("at flow", new int[] {-1, 601, MIN, MAX}, f -> x.pressure(l, 1, f), VOID);
        D.due("of a laying without parts", x.pressure(empty, 0, 0), VOID);
        D.due("behind the last one", x.pressure(l, 1, 600), 0);
    }

    private static void engineStarves() {
        D.sentence("STARVES: an ENGINE with a PRESSURE below 0 ahead of it");
        OverHill x = Made.row(1, 1);
        Made.engines(x, 50, 50);
        int l = Made.lay(x, 0, 0, 1, 0, 0, 0, 0, 0, 1, 1, 0, 0, 1, 0);
        D.due("0 ahead of it", x.judge(l, 0, 0), NOT);
        Made.table(x, "b0:1");
        D.due("-1 ahead of it", x.judge(l, 0, 0), 1);
        D.due("flow", x.flow(l, 0), NOT);
        x.height(0, 1);
        x.height(2, 2);
        // Ahead of the first 43 - 1; behind it 92; over two feet more 92 - 1 - 86.
        D.due("5 ahead of the second", x.judge(l, 0, 0), NOT);
        D.due("5 ahead of it", x.pressure(l, 2, 0), 5);
        Made.table(x, "e0:45");
        D.due("0 ahead of the second", x.judge(l, 0, 0), NOT);
        Made.table(x, "e0:44");
        D.due("-1 ahead of the second", x.judge(l, 0, 0), 3);
    }

    private static void tubStarves() {
        D.sentence("STARVES: a TUB likewise");
        OverHill x = Made.row(1, 1);
        Made.engines(x, 50);
        int l = Made.lay(x, 3, 0, 1, 0, 0, 2, 0, 0, 0, 0, 0, 1, 1, 0, 2, 0, 0);
        D.due("0 ahead of the first", x.judge(l, 0, 0), NOT);
        Made.table(x, "b0:1");
        D.due("-1 ahead of the first", x.judge(l, 0, 0), 1);
        D.due("flow", x.flow(l, 0), NOT);
        x.height(0, 1);
        D.due("42 ahead of the first, 49 ahead of the second", x.judge(l, 0, 0), NOT);
        Made.table(x, "e0:1");
        D.due("0 ahead of the second", x.judge(l, 0, 0), NOT);
        Made.table(x, "e0:0");
        D.due("-1 ahead of the second", x.judge(l, 0, 0), 4);
    }

    private static void burstsAhead() {
        D.sentence("BURSTS: a WAY with a PRESSURE above MOST of its BORE ahead of it");
        OverHill x = Made.row(1);
        Made.engines(x, 500);
        Made.table(x, "b0:100");
        int l = Made.lay(x, 0, 0, 0, 0, 0, 1, 0, 0);
        x.bore(0, 0, 500);
        D.due("as much as it bears", x.judge(l, 0, 0), NOT);
        x.bore(0, 0, 499);
        D.due("one more than it bears", x.judge(l, 0, 0), 1);
        D.due("an engine does not burst", x.judge(Made.lay(x, 3, 0, 2, 0, 0), 0, 0), NOT);
    }

    private static void burstsBehind() {
        D.sentence("BURSTS: ahead of it, or behind it");
        OverHill x = Made.points(1, 0);
        x.way(0, 1, 1);
        Made.table(x, "b0:0");
        int l = Made.lay(x, 3, 0, 1, 0, 0, 2, 0, 0);
        x.bore(0, 0, 43);
        D.due("as much as it bears behind it", x.judge(l, 0, 0), NOT);
        x.bore(0, 0, 42);
        D.due("one more behind it", x.judge(l, 0, 0), 0);
        x.bore(0, 0, 0);
        x.height(0, 0);
        D.due("0 on both sides of one that bears 0", x.judge(l, 0, 0), NOT);
        Made.table(x, "b0:1");
        D.due("what lies below 0 bursts nothing", x.judge(Made.lay(x, 0, 0, 1, 0, 0), 0, 0), LACKS);
    }

    private static void burstsByItsBore() {
        D.sentence("BURSTS: above MOST of its BORE");
        for (int bore = 0; bore < 3; bore++) {
            OverHill x = Made.row(1, 1);
            Made.engines(x, 500);
            int l = Made.lay(x, 0, 0, 0, 0, 0, 1, 0, bore, 1, 1, (bore + 1) % 3);
            x.bore((bore + 2) % 3, 0, 0);
            D.due("another bore", x.judge(l, 0, 0), NOT);
            x.bore((bore + 1) % 3, 0, 499);
            D.due("the second way's", x.judge(l, 0, 0), 2);
            x.bore(bore, 0, 499);
            D.due("the first way's", x.judge(l, 0, 0), 1);
        }
    }

    private static void need() {
        D.sentence("NEED (0 .. 99999: the PRESSURE wanted behind the last PART)");
        OverHill x = Made.row(1);
        Made.engines(x, 99999);
        int l = Made.lay(x, 2, 0, 0, 0, 0, 1, 0, 0);
        int other = x.laying(0, 0);
        int[] none = {-1, 100000, MIN, MAX};
        D.each("flow(l, need)", none, n -> x.flow(l, n), BAD);
        D.each("judge(l, 0, need)", none, n -> x.judge(l, 0, n), BAD);
        D.each("bound(l, need)", none, n -> x.bound(l, n), BAD);
        D.each("most(l, need, 0)", none, n -> x.most(l, n, 0), BAD);
        D.each("worth(l, 0, need)", none, n -> x.worth(l, 0, n), VOID);
        D.each("helps(l, need, 0)", none, n -> x.helps(l, n, 0), BAD);
        D.each("goes(l, 1, need)", none, n -> x.goes(l, 1, n), BAD);
        D.each("share(l and other, need, 9, 0)", none, n -> x.share(100 * l + other, n, 9, 0), BAD);
        x.bore(0, 0, 99999);
        D.due("flow for 99999", x.flow(l, 99999), 600);
        D.due("judge for 99999", x.judge(l, 600, 99999), NOT);
        D.due("bound for 99999", x.bound(l, 99999), 600);
        D.due("most for 99999", x.most(l, 99999, 0), 600);
        D.due("worth for 99999", x.worth(l, 0, 99999), 600);
        D.due("helps for 99999", x.helps(l, 99999, 1), 600);
        D.due("goes for 99999", x.goes(l, 1, 99999), 600);
        D.due("share for 99999", x.share(100 * l + other, 99999, 9, 0), 9);
        Made.table(x, "e0:99998");
        D.due("one less than is wanted", x.flow(l, 99999), NOT);
        D.due("0 is wanted", x.flow(l, 0), 600);
    }

    private static void greatestFlow() {
        D.sentence("FLOW: the greatest at which nothing STARVES and at the end there is NEED or more");
        OverHill x = Made.row(1, 1);
        Made.losesFlow(x, 0);
        Made.engines(x, 1000, 0);
        int l = Made.lay(x, 0, 0, 0, 0, 0, 1, 0, 0);
        for (int flow = 0; flow <= 600; flow += 1) {
            D.due("just as much as " + flow + " leaves", x.flow(l, 1000 - flow), flow);
        }
        D.due("399 leaves more than is wanted", x.flow(l, 399), 600);
        int starving = Made.lay(x, 0, 1, 1, 1, 1, 0, 1, 0);
        Made.losesFlow(x, 1);
        D.due("it starves from 1 on", x.flow(starving, 0), 0);
        x.height(1, 1);
        D.due("it starves from 44 on", x.flow(starving, 0), 43);
        D.due("0 ahead of it there", x.pressure(starving, 0, 43), 0);
    }

    private static void noFlow() {
        D.sentence("FLOW; NOT: none");
        OverHill x = Made.row(1);
        Made.losesFlow(x, 0);
        Made.engines(x, 1000);
        int l = Made.lay(x, 0, 0, 0, 0, 0, 1, 0, 0);
        D.due("0 gallons are a flow", x.flow(l, 1000), 0);
        D.due("more than there is at 0", x.flow(l, 1001), NOT);
        x.height(1, 1);
        D.due("a foot up", x.flow(l, 957), 0);
        D.due("a foot up, one more", x.flow(l, 958), NOT);
    }

    private static void allFlowsAreAsked() {
        D.sentence("(All from 600 to 0 are asked.)");
        OverHill x = Made.row(1);
        Made.engines(x, 600);
        Made.losesFlow(x, 0);
        int l = Made.lay(x, 0, 0, 0, 0, 0, 1, 0, 0);
        int[] flows = {0, 1, 2, 298, 299, 300, 301, 302, 449, 450, 451, 598, 599, 600};
        for (int flow : flows) {
            D.due("flow for " + (600 - flow), x.flow(l, 600 - flow), flow);
            D.due("bound for " + (600 - flow), x.bound(l, 600 - flow), flow);
        }
    }

    private static void flowDoesNotAskBursts() {
        D.sentence("FLOW: nothing STARVES and NEED or more (bursts are of BOUND)");
        OverHill x = Made.row(1);
        Made.engines(x, 500);
        int l = Made.lay(x, 0, 0, 0, 0, 0, 1, 0, 0);
        x.bore(0, 0, 0);
        D.due("flow", x.flow(l, 500), 600);
        D.due("bound", x.bound(l, 500), NOT);
        D.due("judge", x.judge(l, 0, 500), 1);
    }

    private static void judgedFirstPart() {
        D.sentence("JUDGED at a FLOW: the first PART that STARVES or BURSTS");
        OverHill x = Made.points(1, 0, 0, 5);
        x.way(0, 1, 1);
        x.way(1, 2, 1);
        x.way(2, 3, 1);
        for (int bore = 0; bore < 3; bore++) {
            Made.table(x, "b" + bore + ":0");
        }
        Made.engines(x, 10, 10);
        int l = Made.lay(x, 0, 0, 1, 0, 0, 1, 1, 1, 1, 2, 2, 0, 0, 0, 1, 2, 2, 0, 1, 0);
        // Behind the parts: 43, 43, -172, -162, 53, 63.
        D.due("an engine starves", x.judge(l, 0, 0), 3);
        x.bore(1, 0, 42);
        D.due("a way ahead of it bursts", x.judge(l, 0, 0), 1);
        x.bore(0, 0, 42);
        D.due("one ahead of that", x.judge(l, 0, 0), 0);
        x.bore(0, 0, 43);
        x.bore(1, 0, 43);
        x.bore(2, 0, 43);
        D.due("the starving one stands ahead of a way that bursts", x.judge(l, 0, 0), 3);
        x.bore(2, 0, 42);
        D.due("a way bursts by what is ahead of it", x.judge(l, 0, 0), 2);
        x.bore(2, 0, 43);
        x.height(3, 1);
        // Behind the parts: 43, 43, 0, 10, 53, 63.
        D.due("the way behind the engine bursts", x.judge(l, 0, 0), 4);
        x.bore(2, 0, 53);
        D.due("nothing does", x.judge(l, 0, 63), NOT);
    }

    private static void lacks() {
        D.sentence("then LACKS (100), if the end has less than NEED; else NOT");
        OverHill x = Made.row(1, 1);
        Made.engines(x, 500, 0);
        int l = Made.lay(x, 0, 0, 0, 0, 0, 1, 0, 0);
        D.due("as much as is wanted", x.judge(l, 600, 500), NOT);
        D.due("one less than is wanted", x.judge(l, 600, 501), LACKS);
        x.bore(0, 0, 499);
        D.due("a burst goes ahead of it", x.judge(l, 600, 501), 1);
        Made.table(x, "b1:1");
        int below = Made.lay(x, 0, 1, 1, 1, 1);
        D.due("-1 lacks 0", x.judge(below, 0, 0), LACKS);
        x.part(below, 0, 1, 0);
        D.due("what starves goes ahead of it", x.judge(below, 0, 1), 1);
        int empty = x.laying(0, 0);
        D.due("without parts there is 0", x.judge(empty, 600, 0), NOT);
        D.due("without parts 1 lacks", x.judge(empty, 0, 1), LACKS);
    }

    private static void judgeRefused() {
        D.sentence("judge: BAD; NOT: all is well");
        OverHill x = flat();
        int l = Made.lay(x, 0, 0, 1, 0, 0);
        D.each("judge of laying", new int[] {-1, 1, 19, 20, MIN, MAX}, g -> x.judge(g, 0, 0), BAD);
        D.each("judge at", new int[] {-1, 601, MIN, MAX}, f -> x.judge(l, f, 0), BAD);
        D.each("judge for", new int[] {-1, 100000, MIN, MAX}, n -> x.judge(l, 0, n), BAD);
        D.due("all is well", x.judge(l, 0, 0), NOT);
        D.due("all is well", x.judge(l, 600, 0), NOT);
    }

    private static void bound() {
        D.sentence("BOUND: the greatest FLOW at which nothing STARVES, LACKS or BURSTS");
        OverHill x = Made.row(1, 1);
        x.engine(1, 1);
        x.engine(1, 1);
        int l = Made.lay(x, 0, 0, 0, 0, 0, 1, 0, 0);
        x.bore(0, 0, 8000);
        // The engine lifts 10000 less 10 times the flow: below 200 the way bursts.
        D.due("what is borne at 600 alone is asked there", x.bound(l, 0), 600);
        D.due("200 is the last that lacks nothing, and bursts nothing", x.bound(l, 8000), 200);
        D.due("199 bursts", x.bound(l, 8001), NOT);
        D.due("flow asks no bursts", x.flow(l, 8001), 199);
        x.bore(0, 0, 8010);
        D.due("199 bursts no more", x.bound(l, 8001), 199);
        Made.losesFlow(x, 1);
        x.height(1, 1);
        int starving = Made.lay(x, 0, 2, 1, 1, 1, 0, 1, 0);
        D.due("it climbs a foot and starves", x.bound(starving, 0), NOT);
        x.height(2, 2);
        D.due("a foot down: it starves from 44 on", x.bound(starving, 0), 43);
        x.bore(1, 0, 0);
        D.due("at 43 there is 0 on both sides of the way", x.bound(starving, 0), 43);
    }

    private static void boundNot() {
        D.sentence("BOUND. BAD; NOT");
        OverHill x = Made.row(1);
        Made.losesFlow(x, 0);
        Made.engines(x, 1000);
        int l = Made.lay(x, 0, 0, 0, 0, 0, 1, 0, 0);
        D.due("0 gallons are a bound", x.bound(l, 1000), 0);
        D.due("it lacks everywhere", x.bound(l, 1001), NOT);
        x.bore(0, 0, 999);
        D.due("it bursts everywhere", x.bound(l, 0), NOT);
    }

    private static void flowAndBoundRefused() {
        D.sentence("FLOW. BAD; BOUND. BAD");
        OverHill x = flat();
        int l = Made.lay(x, 0, 0, 1, 0, 0);
        int[] none = {-1, l + 1, 19, 20, MIN, MAX};
        D.each("flow of laying", none, g -> x.flow(g, 0), BAD);
        D.each("bound of laying", none, g -> x.bound(g, 0), BAD);
        D.due("flow of the last one", x.flow(l, 0), 600);
        D.due("bound of the last one", x.bound(l, 0), 600);
    }

    private static void hose() {
        D.sentence("HOSE of a LAYING: LENGTHS of each BORE (twice those that lie in two lines)");
        OverHill x = Made.row(7, 11, 30);
        int[] due = {7 + 30, 11, 0};
        for (int kind = 0; kind < 6; kind++) {
            int l = Made.lay(x, kind, 0, 1, 0, 0, 1, 1, 1, 1, 2, 0);
            int times = kind == 2 || kind == 4 ? 2 : 1;
            for (int bore = 0; bore < 3; bore++) {
                D.due("kind " + kind + ", bore " + bore, x.of(l, 3 + bore), times * due[bore]);
            }
        }
        int l = x.laying(2, 2);
        for (int i = 0; i < 24; i++) {
            x.part(l, 1, 2, 2);
        }
        D.due("the most that can lie: more than there is", x.of(l, 5), 24 * 60);
        D.due("none without parts", x.of(x.laying(2, 0), 3), 0);
    }

    private static void ofALaying() {
        D.sentence("Of a LAYING: 0 KIND, 1 how many PARTS, 2 the POINT where it ends, 3 .. 5 HOSE of BORES");
        OverHill x = flat();
        int l = x.laying(1, 3);
        int[] empty = {1, 0, 3, 0, 0, 0};
        for (int what = 0; what < 6; what++) {
            D.due("of an empty one: " + what, x.of(l, what), empty[what]);
        }
        x.part(l, 1, 2, 2);
        x.part(l, 0, 0, 0);
        x.part(l, 1, 1, 1);
        int[] laid = {1, 3, 1, 0, 2, 3};
        for (int what = 0; what < 6; what++) {
            D.due("of one: " + what, x.of(l, what), laid[what]);
        }
    }

    private static void ofAPart() {
        D.sentence("100 and PART: its sort, 200: its number, 300: its BORE (of others than WAYS -1)");
        OverHill x = flat();
        int l = x.laying(3, 0);
        for (int i = 0; i < 24; i++) {
            x.part(l, i == 0 ? 0 : i % 3 == 2 ? 2 : 1, i == 0 ? 2 : 0, i % 2 + 1);
        }
        for (int i = 0; i < 24; i++) {
            boolean way = i != 0 && i % 3 != 2;
            D.due("sort of " + i, x.of(l, 100 + i), i == 0 ? 0 : way ? 1 : 2);
            D.due("number of " + i, x.of(l, 200 + i), i == 0 ? 2 : way ? 0 : -1);
            D.due("bore of " + i, x.of(l, 300 + i), way ? i % 2 + 1 : -1);
        }
        D.each("of(l, what)", new int[] {124, 224, 324}, w -> x.of(l, w), BAD);
    }

    private static void ofRefused() {
        D.sentence("of: BAD");
        OverHill x = flat();
        int l = Made.lay(x, 0, 0, 1, 0, 0);
        int empty = x.laying(0, 0);
        D.each("of laying", new int[] {-1, 2, 19, 20, MIN, MAX}, g -> x.of(g, 0), BAD);
        D.each("of(l, what)", new int[] {-1, 6, 7, 99, 101, 123, 199, 201, 299, 301, 399, 400, 500, 1100, -100, -99, -200,
            MIN, MAX}, w -> x.of(l, w), BAD);
        D.each("of an empty one", new int[] {100, 200, 300}, w -> x.of(empty, w), BAD);
        D.due("of its one part", x.of(l, 100), 1);
    }
}
