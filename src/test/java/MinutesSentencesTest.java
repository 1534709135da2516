/**
 * The fourth part of the document's terms, and promises 24 to 36: each sentence that names a
 * boundary case has a test of its own, with the sentence's words at its head.
 */
public final class MinutesSentencesTest {
    private static final Due D = new Due();
    private static final int BAD = OverHill.BAD, NOT = OverHill.NOT, FULL = OverHill.FULL, STATE = OverHill.STATE;
    private static final int MIN = Integer.MIN_VALUE, MAX = Integer.MAX_VALUE;

    public static void main(String[] args) {
        loads();
        minutesOfALoad();
        unloaded();
        hands();
        leastTime();
        firstBy();
        loadsStay();
        minutesRefused();
        waysUp();
        fewestMinutes();
        noWaysLeadThere();
        soonToItself();
        soonRefused();
        leastFuel();
        withoutEngines();
        lastsRefused();
        turns();
        belowZero();
        turnRefused();
        waterOfShares();
        notOfEither();
        lesserIsGreatest();
        thenTheSum();
        thenTheFirst();
        fromAnyPoints();
        oneAndTheSame();
        shareRefused();
        things();
        weightOfAThing();
        worthsOfAThing();
        unthinged();
        weightAtMost();
        chancesOfFires();
        leastWeightOfLikeOnes();
        leastBitsOfLikeOnes();
        emptySet();
        thingsStay();
        cartRefused();
        oldHose();
        cutAtEach();
        boreByBore();
        oldTwice();
        oldRefused();
        changes();
        sameNumberIsNone();
        latestFirst();
        doneAgain();
        anotherCameBehind();
        fortyAtMost();
        fortyAndRedo();
        fortyOfAllSorts();
        undoAnswers();
        D.end();
    }

    private static OverHill loaded(int... loads) {
        OverHill x = new OverHill();
        for (int load : loads) {
            x.load(load);
        }
        return x;
    }

    private static void loads() {
        D.sentence("loads (1 .. 8 told). A load: how many. FULL: 8");
        OverHill x = new OverHill();
        D.due("none is told", x.count(5), 0);
        for (int i = 1; i <= 8; i++) {
            D.due("load " + i, x.load(9), i);
            D.due("loads", x.count(5), i);
        }
        D.due("a ninth", x.load(9), FULL);
        D.due("loads", x.count(5), 8);
        D.due("8 loads by one", x.minutes(1, 0), 72);
        D.due("BAD goes ahead of FULL", x.load(100), BAD);
    }

    private static void minutesOfALoad() {
        D.sentence("each with minutes 1 .. 99. BAD");
        OverHill x = new OverHill();
        D.each("load", new int[] {0, -1, 100, MIN, MAX}, v -> x.load(v), BAD);
        D.due("none came", x.count(5), 0);
        D.due("of 1", x.load(1), 1);
        D.due("1 by one", x.minutes(1, 0), 1);
        D.due("of 99", x.load(99), 2);
        D.due("100 by one", x.minutes(1, 0), 100);
    }

    private static void unloaded() {
        D.sentence("unload: Loads are none: how many there were");
        OverHill x = new OverHill();
        D.due("of none", x.unload(), 0);
        for (int n = 1; n <= 8; n++) {
            for (int i = 0; i < n; i++) {
                x.load(7);
            }
            D.due("of " + n, x.unload(), n);
            D.due("none then", x.count(5), 0);
            D.due("none then", x.minutes(1, 0), STATE);
            D.due("of none then", x.unload(), 0);
        }
        D.due("one anew", x.load(3), 1);
        D.due("it alone is carried", x.minutes(1, 0), 3);
    }

    private static void hands() {
        D.sentence("are carried by k hands (1 .. 4)");
        OverHill x = loaded(10, 10, 10, 10, 10, 10);
        D.each("minutes by", new int[] {0, -1, 5, MIN, MAX}, k -> x.minutes(k, 0), BAD);
        int[] least = {60, 30, 20, 20};
        int[] by = {0, 111, 1122, 1122};
        for (int k = 1; k <= 4; k++) {
            D.due("by " + k, x.minutes(k, 0), least[k - 1]);
            D.due("by " + k, x.minutes(k, 1), by[k - 1]);
        }
        OverHill y = loaded(9);
        for (int k = 1; k <= 4; k++) {
            D.due("one load by " + k, y.minutes(k, 0), 9);
            D.due("one load by " + k, y.minutes(k, 1), 0);
        }
    }

    private static void leastTime() {
        D.sentence("each one after another: the least time in which all are (the greatest of what hands carry)");
        D.due("halves", loaded(3, 3, 2, 2, 2).minutes(2, 0), 6);
        D.due("no halves", loaded(3, 3, 2, 2, 3).minutes(2, 0), 7);
        D.due("one is longer than all others", loaded(99, 1, 1, 1).minutes(3, 0), 99);
        D.due("greedy hands need 11", loaded(5, 5, 4, 4, 3, 3, 3).minutes(3, 0), 9);
        D.due("eight of 99", loaded(99, 99, 99, 99, 99, 99, 99, 99).minutes(3, 0), 297);
        D.due("eight of 99 by one", loaded(99, 99, 99, 99, 99, 99, 99, 99).minutes(1, 0), 792);
    }

    private static void firstBy() {
        D.sentence("BY: the first such (digits; the first load's the highest); BY are decimal digits; hands from 0");
        D.due("by one all are 0", loaded(1, 2, 3, 4, 5, 6, 7, 8).minutes(1, 1), 0);
        D.due("the second by another", loaded(4, 4).minutes(2, 1), 1);
        D.due("the last by another", loaded(2, 2, 4).minutes(2, 1), 1);
        D.due("the first by the first hand", loaded(4, 2, 2).minutes(2, 1), 11);
        D.due("as many as may be by the first", loaded(9, 1, 1, 1).minutes(4, 1), 111);
        D.due("not by the emptier hand, but by the first that keeps the time", loaded(9, 1, 8, 1).minutes(4, 1), 112);
        D.due("eight digits", loaded(9, 9, 9, 9, 9, 9, 9, 9).minutes(4, 1), 112233);
        D.due("eight digits falling", loaded(8, 7, 6, 5, 4, 3, 2, 1).minutes(4, 1), 1233210);
        D.due("eight digits, the first load alone", loaded(70, 10, 10, 10, 10, 10, 10, 10).minutes(2, 1), 1111111);
    }

    private static void loadsStay() {
        D.sentence("The loads stay");
        OverHill x = loaded(5, 7, 9);
        for (int k = 1; k <= 4; k++) {
            x.minutes(k, 0);
            x.minutes(k, 1);
            D.due("loads", x.count(5), 3);
        }
        D.due("again by one", x.minutes(1, 0), 21);
        D.due("one more", x.load(1), 4);
        D.due("by one then", x.minutes(1, 0), 22);
    }

    private static void minutesRefused() {
        D.sentence("minutes: BAD; STATE: none is told");
        OverHill x = new OverHill();
        for (int k = 1; k <= 4; k++) {
            D.due("none is told", x.minutes(k, 0), STATE);
            D.due("none is told", x.minutes(k, 1), STATE);
        }
        D.each("BAD goes ahead of STATE: hands", new int[] {0, 5}, k -> x.minutes(k, 0), BAD);
        D.each("BAD goes ahead of STATE: what", new int[] {-1, 2}, w -> x.minutes(1, w), BAD);
        x.load(5);
        D.each("minutes(1, what)", new int[] {-1, 2, MIN, MAX}, w -> x.minutes(1, w), BAD);
        D.due("one is told", x.minutes(1, 0), 5);
    }

    private static void waysUp() {
        D.sentence("an ENGINE comes along WAYS, either way (LENGTHS / SPEED minutes, up, for each WAY)");
        OverHill x = Made.row(1, 1, 9, 10);
        x.engine(0, 2);
        x.engine(0, 9);
        x.engine(0, 1);
        D.due("1 / 2 is 1", x.soon(0, 0, 1), 1);
        D.due("1 / 2 for each of two is 2", x.soon(0, 0, 2), 2);
        D.due("and back", x.soon(0, 2, 0), 2);
        D.due("9 / 9 is 1", x.soon(1, 2, 3), 1);
        D.due("10 / 9 is 2", x.soon(1, 3, 4), 2);
        D.due("10 / 9 back is 2", x.soon(1, 4, 3), 2);
        D.due("10 / 1 is 10", x.soon(2, 3, 4), 10);
    }

    private static void fewestMinutes() {
        D.sentence("from a POINT to another one by the fewest minutes");
        OverHill x = Made.points(0, 0, 0, 0);
        x.engine(0, 1);
        x.engine(0, 9);
        x.way(0, 1, 5);
        D.due("straight", x.soon(0, 0, 1), 5);
        x.way(0, 2, 2);
        x.way(2, 1, 3);
        D.due("as soon by two ways", x.soon(0, 0, 1), 5);
        x.way(3, 2, 1);
        x.way(3, 1, 1);
        D.due("sooner by three", x.soon(0, 0, 1), 4);
        D.due("the faster one goes straight", x.soon(1, 0, 1), 1);
        x.way(1, 0, 3);
        D.due("sooner by another straight one", x.soon(0, 0, 1), 3);
        D.due("and back", x.soon(0, 1, 0), 3);
        OverHill y = new OverHill();
        y.engine(0, 1);
        for (int i = 0; i < 12; i++) {
            y.point(0);
        }
        for (int i = 10; i >= 0; i--) {
            y.way(i + 1, i, 30);
        }
        D.due("over all points", y.soon(0, 0, 11), 330);
        D.due("and back", y.soon(0, 11, 0), 330);
    }

    private static void noWaysLeadThere() {
        D.sentence("NOT: no WAYS lead there");
        OverHill x = Made.points(0, 0, 0, 0);
        x.engine(0, 9);
        D.due("no ways at all", x.soon(0, 0, 1), NOT);
        x.way(0, 1, 1);
        x.way(2, 3, 1);
        for (int from = 0; from < 2; from++) {
            for (int to = 2; to < 4; to++) {
                D.due("from " + from + " to " + to, x.soon(0, from, to), NOT);
                D.due("from " + to + " to " + from, x.soon(0, to, from), NOT);
            }
        }
        x.way(1, 2, 1);
        D.due("now they lead there", x.soon(0, 0, 3), 3);
    }

    private static void soonToItself() {
        D.sentence("SOON to itself is 0");
        OverHill x = Made.points(0, 0);
        x.engine(0, 1);
        D.due("no ways", x.soon(0, 0, 0), 0);
        x.way(0, 1, 1);
        D.due("with a way", x.soon(0, 0, 0), 0);
        D.due("with a way", x.soon(0, 1, 1), 0);
        D.due("of a point that is not there", x.soon(0, 2, 2), BAD);
    }

    private static void soonRefused() {
        D.sentence("SOON. BAD");
        OverHill x = Made.row(1);
        x.engine(0, 1);
        D.each("soon of engine", new int[] {-1, 1, 5, 6, MIN, MAX}, e -> x.soon(e, 0, 1), BAD);
        D.each("soon from", new int[] {-1, 2, 11, 12, MIN, MAX}, p -> x.soon(0, p, 1), BAD);
        D.each("soon to", new int[] {-1, 2, 11, 12, MIN, MAX}, p -> x.soon(0, 0, p), BAD);
        D.due("soon", x.soon(0, 0, 1), 1);
    }

    private static void leastFuel() {
        D.sentence("FUEL: a LAYING lasts as long as the ENGINE in it with the least");
        OverHill x = Made.points(0);
        int[] fuels = {50, 999, 40, 60, 0};
        for (int fuel : fuels) {
            x.engine(fuel, 1);
        }
        int l = Made.lay(x, 3, 0, 2, 0, 0, 0, 0, 0);
        D.due("50", x.lasts(l), 50);
        x.part(l, 0, 1, 0);
        D.due("50 and 999", x.lasts(l), 50);
        x.part(l, 0, 2, 0);
        D.due("40 more", x.lasts(l), 40);
        x.part(l, 0, 3, 0);
        D.due("60 more", x.lasts(l), 40);
        int other = Made.lay(x, 0, 0, 0, 4, 0);
        D.due("0", x.lasts(other), 0);
        D.due("that one is not in this", x.lasts(l), 40);
    }

    private static void withoutEngines() {
        D.sentence("FUEL (999 without)");
        OverHill x = Made.row(1);
        x.engine(5, 1);
        D.due("no parts", x.lasts(x.laying(0, 0)), 999);
        D.due("a way and a tub", x.lasts(Made.lay(x, 3, 0, 1, 0, 0, 2, 0, 0)), 999);
        OverHill y = Made.points(0);
        y.engine(999, 1);
        D.due("one with 999", y.lasts(Made.lay(y, 0, 0, 0, 0, 0)), 999);
    }

    private static void lastsRefused() {
        D.sentence("FUEL of a LAYING. BAD");
        OverHill x = Made.points(0);
        int l = x.laying(0, 0);
        D.each("lasts", new int[] {-1, 1, 19, 20, MIN, MAX}, g -> x.lasts(g), BAD);
        D.due("lasts", x.lasts(l), 999);
    }

    private static void turns() {
        D.sentence("TURNS: (told bits) one runs at a time: how many minutes in all; less b minutes for each change");
        OverHill x = new OverHill();
        int[] fuels = {1, 10, 100, 200, 500, 999};
        for (int fuel : fuels) {
            x.engine(fuel, 1);
        }
        for (int engine = 0; engine < 6; engine++) {
            D.due("one alone changes never", x.turn(1 << engine, 99), fuels[engine]);
        }
        D.due("two change once", x.turn(0b000110, 99), 11);
        D.due("two that do not stand beside each other", x.turn(0b100001, 7), 993);
        D.due("three change twice", x.turn(0b011100, 50), 700);
        D.due("six change five times", x.turn(63, 99), 1810 - 495);
        D.due("no breaks", x.turn(63, 0), 1810);
    }

    private static void belowZero() {
        D.sentence("TURNS (it may be below 0)");
        OverHill x = new OverHill();
        for (int i = 0; i < 6; i++) {
            x.engine(i == 0 ? 1 : 0, 1);
        }
        D.due("just 0", x.turn(3, 1), 0);
        D.due("just below 0", x.turn(3, 2), -1);
        D.due("the least", x.turn(62, 99), -396);
        D.due("all six", x.turn(63, 99), -494);
    }

    private static void turnRefused() {
        D.sentence("TURNS of told ENGINES (bits) with breaks of b (0 .. 99). BAD (also none)");
        OverHill x = new OverHill();
        D.each("turn without engines", new int[] {0, 1, 2, 63, 64, -1}, e -> x.turn(e, 0), BAD);
        x.engine(5, 1);
        x.engine(6, 1);
        D.due("none is told", x.turn(0, 0), BAD);
        D.each("turn of those that are not there", new int[] {4, 5, 6, 7, 8, 32, 64, 1 << 30, -1, -2, MIN, MAX},
                e -> x.turn(e, 0), BAD);
        D.each("turn with breaks of", new int[] {-1, 100, MIN, MAX}, b -> x.turn(3, b), BAD);
        D.due("breaks of 0", x.turn(3, 0), 11);
        D.due("breaks of 99", x.turn(3, 99), 11 - 99);
    }

    /** Layings 0 and 1, in which 600 less what is wanted come, and laying 2 without parts. */
    private static OverHill sharing() {
        OverHill x = Made.row(1, 1);
        Made.losesFlow(x, 0);
        Made.losesFlow(x, 1);
        Made.engines(x, 600, 600);
        Made.lay(x, 0, 0, 0, 0, 0, 1, 0, 0);
        Made.lay(x, 1, 1, 0, 1, 0, 1, 1, 1);
        x.laying(0, 2);
        return x;
    }

    private static void shared(String what, OverHill x, int lo, int need, int water, int f, int g) {
        D.due(what + ": f", x.share(lo, need, water, 0), f);
        D.due(what + ": g", x.share(lo, need, water, 1), g);
    }

    private static void waterOfShares() {
        D.sentence("two LAYINGS from one water with W (0 .. 600) together: f + g at most W");
        OverHill x = sharing();
        D.each("share of water: f", new int[] {-1, -2, 601, MIN, MAX}, w -> x.share(1, 0, w, 0), BAD);
        D.each("share of water: g", new int[] {-1, -2, 601, MIN, MAX}, w -> x.share(1, 0, w, 1), BAD);
        shared("of 0", x, 1, 0, 0, 0, 0);
        shared("of 1", x, 1, 0, 1, 1, 0);
        shared("of 2", x, 1, 0, 2, 1, 1);
        shared("of 599", x, 1, 0, 599, 300, 299);
        shared("of 600", x, 1, 0, 600, 300, 300);
        shared("as much as both take", x, 1, 300, 600, 300, 300);
        shared("more than both take", x, 1, 301, 600, 299, 299);
    }

    private static void notOfEither() {
        D.sentence("SHARE (NOT of either is 0.)");
        OverHill x = sharing();
        shared("the other has none", x, 2, 1, 600, 599, 0);
        shared("the one has none", x, 200, 1, 600, 0, 599);
        shared("the other has none, little water", x, 2, 1, 7, 7, 0);
        shared("both have none", x, 1, 601, 600, 0, 0);
        shared("both have 0", x, 1, 600, 600, 0, 0);
    }

    private static void lesserIsGreatest() {
        D.sentence("FLOWS f and g, each no more than its own: so that the lesser one is greatest");
        OverHill x = sharing();
        Made.table(x, "e1:400");
        shared("600 of the one, 400 of the other", x, 1, 0, 600, 300, 300);
        shared("of 500", x, 1, 0, 500, 250, 250);
        shared("450 and 250", x, 1, 150, 600, 350, 250);
        shared("450 and 250, the other way about", x, 100, 150, 600, 250, 350);
        shared("201 and 1", x, 1, 399, 600, 201, 1);
        shared("200 and 0", x, 1, 400, 600, 200, 0);
    }

    private static void thenTheSum() {
        D.sentence("so that the lesser one is greatest, then the sum");
        OverHill x = sharing();
        Made.table(x, "e1:100");
        shared("100 of the other, the rest to the one", x, 1, 0, 600, 500, 100);
        shared("the other way about", x, 100, 0, 600, 100, 500);
        shared("of 201", x, 1, 0, 201, 101, 100);
        shared("of 201 the other way about", x, 100, 0, 201, 100, 101);
        shared("of 200", x, 1, 0, 200, 100, 100);
    }

    private static void thenTheFirst() {
        D.sentence("then f; SHARE: then the greatest sum, the greatest f");
        OverHill x = sharing();
        for (int water = 1; water < 600; water += 2) {
            shared("of " + water, x, 1, 0, water, water / 2 + 1, water / 2);
            shared("of " + water + " the other way about", x, 100, 0, water, water / 2 + 1, water / 2);
        }
        Made.table(x, "e0:5");
        shared("the one takes no more than 5", x, 1, 0, 11, 5, 6);
        shared("the other takes no more than 5", x, 100, 0, 11, 6, 5);
    }

    private static void fromAnyPoints() {
        D.sentence("SHARE: from any POINTS");
        OverHill x = sharing();
        D.due("the one begins at 0", x.share(1, 0, 600, 0), 300);
        int l = Made.lay(x, 0, 2, 1, 1, 2);
        D.due("another one begins at 2", x.share(l, 0, 600, 0), 300);
        D.due("without parts, from 2", x.share(2, 0, 600, 1), 300);
    }

    private static void oneAndTheSame() {
        D.sentence("two LAYINGS (lo: 100 times the one and the other). BAD (one and the same)");
        OverHill x = sharing();
        for (int l = 0; l < 3; l++) {
            D.due(l + " and " + l, x.share(101 * l, 0, 600, 0), BAD);
            for (int other = 0; other < 3; other++) {
                if (l != other) {
                    D.due(l + " and " + other, x.share(100 * l + other, 0, 600, 0), 300);
                }
            }
        }
        D.each("one that is not there", new int[] {3, 300, 99, 9900, 103, 301, 10000, 10001, 1900, 2000, -1, -100, -101,
            -99, MIN, MAX}, lo -> x.share(lo, 0, 600, 0), BAD);
    }

    private static void shareRefused() {
        D.sentence("f (what 0), g (1). BAD");
        OverHill x = sharing();
        D.each("share what", new int[] {-1, 2, MIN, MAX}, w -> x.share(1, 0, 600, w), BAD);
        D.each("share for", new int[] {-1, 100000, MIN, MAX}, n -> x.share(1, n, 600, 0), BAD);
        D.due("f", x.share(1, 0, 601 - 2, 0), 300);
        D.due("g", x.share(1, 0, 601 - 2, 1), 299);
    }

    private static void things() {
        D.sentence("things (1 .. 9 told). A thing for THE CART: how many. FULL: 9");
        OverHill x = new OverHill();
        D.due("none is told", x.count(6), 0);
        for (int i = 1; i <= 9; i++) {
            D.due("thing " + i, x.thing(1, 1), i);
            D.due("things", x.count(6), i);
        }
        D.due("a tenth", x.thing(1, 1), FULL);
        D.due("things", x.count(6), 9);
        D.due("nine on the cart", x.cart(9, 1, 1), 511);
        D.due("BAD goes ahead of FULL", x.thing(0, 1), BAD);
    }

    private static void weightOfAThing() {
        D.sentence("WEIGHT 1 .. 99. BAD");
        OverHill x = new OverHill();
        D.each("thing of weight", new int[] {0, -1, 100, MIN, MAX}, w -> x.thing(w, 1), BAD);
        D.due("none came", x.count(6), 0);
        D.due("of 1", x.thing(1, 1), 1);
        D.due("1 goes", x.cart(1, 1, 1), 1);
        D.due("of 99", x.thing(99, 1), 2);
        D.due("100 go", x.cart(100, 1, 1), 3);
        D.due("99 do not take both", x.cart(99, 1, 1), 1);
    }

    private static void worthsOfAThing() {
        D.sentence("WORTHS at each of 3 fires 0 .. 99; worths: digits base 100, of fire 0 the highest");
        OverHill x = new OverHill();
        D.each("thing of worths", new int[] {-1, 1000000, MIN, MAX}, w -> x.thing(1, w), BAD);
        D.due("none came", x.count(6), 0);
        x.thing(1, 0);
        D.due("of 0", x.cart(1, 1030300, 0), 0);
        x.thing(1, 999999);
        D.due("of 99 each", x.cart(1, 1030300, 0), 29700);
        x.unthing();
        x.thing(1, 10203);
        int[] fires = {100 * 101 * 101, 100 * 101, 100};
        for (int fire = 0; fire < 3; fire++) {
            D.due("fire " + fire, x.cart(1, fires[fire], 0), 100 * (fire + 1));
        }
        x.unthing();
        x.thing(1, 99);
        D.due("99 of fire 2", x.cart(1, 1, 0), 99);
        x.thing(1, 100);
        D.due("100 is 1 of fire 1", x.cart(1, 101, 0), 1);
        x.thing(1, 10000);
        D.due("10000 is 1 of fire 0", x.cart(1, 10201, 0), 1);
    }

    private static void unthinged() {
        D.sentence("unthing: Things are none: how many there were");
        OverHill x = new OverHill();
        D.due("of none", x.unthing(), 0);
        for (int n = 1; n <= 9; n++) {
            for (int i = 0; i < n; i++) {
                x.thing(7, 5);
            }
            D.due("of " + n, x.unthing(), n);
            D.due("none then", x.count(6), 0);
            D.due("none then", x.cart(9, 1, 0), STATE);
            D.due("of none then", x.unthing(), 0);
        }
        D.due("one anew", x.thing(3, 4), 1);
        D.due("it alone is there", x.cart(99, 1, 0), 4);
    }

    private static void weightAtMost() {
        D.sentence("the set with WEIGHT at most C with the greatest sum over fires of chance times sum of WORTHS");
        OverHill x = new OverHill();
        x.thing(10, 7);
        x.thing(20, 8);
        x.thing(30, 14);
        int[] most = {9, 10, 19, 20, 29, 30, 39, 40, 49, 50, 59, 60, MAX};
        int[] sums = {0, 7, 7, 8, 8, 15, 15, 21, 21, 22, 22, 29, 29};
        int[] sets = {0, 1, 1, 2, 2, 3, 3, 5, 5, 6, 6, 7, 7};
        for (int i = 0; i < most.length; i++) {
            D.due("sum of " + most[i], x.cart(most[i], 1, 0), sums[i]);
            D.due("set of " + most[i], x.cart(most[i], 1, 1), sets[i]);
        }
        OverHill y = new OverHill();
        for (int i = 0; i < 9; i++) {
            y.thing(99, 999999);
        }
        D.due("the greatest sum", y.cart(891, 1030300, 0), 267300);
        D.due("one too heavy", y.cart(890, 1030300, 0), 237600);
    }

    private static void chancesOfFires() {
        D.sentence("fires' chances (hundredths); chances: digits base 101, of fire 0 the highest. BAD");
        OverHill x = new OverHill();
        x.thing(1, 10203);
        D.each("cart of chances", new int[] {-1, 1030301, MIN, MAX}, c -> x.cart(1, c, 0), BAD);
        D.due("0", x.cart(1, 0, 0), 0);
        D.due("1 of fire 2", x.cart(1, 1, 0), 3);
        D.due("100 of fire 2", x.cart(1, 100, 0), 300);
        D.due("101 is 1 of fire 1", x.cart(1, 101, 0), 2);
        D.due("100 of fires 1 and 2", x.cart(1, 10200, 0), 500);
        D.due("10201 is 1 of fire 0", x.cart(1, 10201, 0), 1);
        D.due("100 of all", x.cart(1, 1030300, 0), 600);
    }

    private static void leastWeightOfLikeOnes() {
        D.sentence("of like ones the least WEIGHT");
        OverHill x = new OverHill();
        x.thing(9, 5);
        x.thing(8, 5);
        x.thing(1, 0);
        D.due("the lighter one of two", x.cart(9, 1, 1), 2);
        D.due("what is worth nothing is not taken", x.cart(99, 1, 1), 3);
        D.due("by no chances nothing is taken", x.cart(99, 0, 1), 0);
        x.thing(4, 3);
        x.thing(3, 2);
        D.due("two that weigh less than the one", x.cart(8, 1, 1), 24);
        D.due("their sum", x.cart(8, 1, 0), 5);
    }

    private static void leastBitsOfLikeOnes() {
        D.sentence("then the least as bits");
        OverHill x = new OverHill();
        x.thing(5, 5);
        x.thing(5, 5);
        x.thing(5, 5);
        D.due("one of three", x.cart(5, 1, 1), 1);
        D.due("two of three", x.cart(14, 1, 1), 3);
        x.unthing();
        x.thing(2, 2);
        x.thing(4, 4);
        x.thing(6, 6);
        D.due("two ahead of the one", x.cart(6, 1, 1), 3);
        x.unthing();
        x.thing(6, 6);
        x.thing(2, 2);
        x.thing(4, 4);
        D.due("the one ahead of two", x.cart(6, 1, 1), 1);
    }

    private static void emptySet() {
        D.sentence("CART: C is 0 or more, the empty set counts");
        OverHill x = new OverHill();
        x.thing(1, 999999);
        D.each("cart of most", new int[] {-1, -2, MIN}, c -> x.cart(c, 1, 0), BAD);
        D.due("sum of 0", x.cart(0, 1030300, 0), 0);
        D.due("set of 0", x.cart(0, 1030300, 1), 0);
        D.due("set of 1", x.cart(1, 1030300, 1), 1);
        D.due("set of the greatest", x.cart(MAX, 1030300, 1), 1);
        D.due("set by no chances", x.cart(MAX, 0, 1), 0);
    }

    private static void thingsStay() {
        D.sentence("The things stay");
        OverHill x = new OverHill();
        x.thing(1, 1);
        x.thing(2, 2);
        for (int what = 0; what < 2; what++) {
            D.due("cart", x.cart(3, 1, what), 3);
            D.due("cart of little", x.cart(1, 1, what), 1);
            D.due("things", x.count(6), 2);
        }
        D.due("one more", x.thing(3, 3), 3);
        D.due("all", x.cart(6, 1, 1), 7);
    }

    private static void cartRefused() {
        D.sentence("cart: BAD; STATE: none is told");
        OverHill x = new OverHill();
        D.due("none is told", x.cart(0, 0, 0), STATE);
        D.due("none is told", x.cart(MAX, 1030300, 1), STATE);
        D.due("BAD goes ahead of STATE: most", x.cart(-1, 0, 0), BAD);
        D.due("BAD goes ahead of STATE: chances", x.cart(0, 1030301, 0), BAD);
        D.due("BAD goes ahead of STATE: what", x.cart(0, 0, 2), BAD);
        x.thing(1, 1);
        D.each("cart(1, 1, what)", new int[] {-1, 2, MIN, MAX}, w -> x.cart(1, 1, w), BAD);
        D.due("one is told", x.cart(1, 1, 0), 1);
    }

    private static void oldHose() {
        D.sentence("OLD: for each LENGTH of HOSE times (1000 less 10 times AGE, 0 at least) / 1000");
        OverHill x = Made.row(1, 2);
        int none = x.laying(0, 0);
        int one = Made.lay(x, 0, 0, 1, 0, 0);
        int three = Made.lay(x, 0, 0, 1, 0, 0, 1, 1, 0);
        D.due("new hose", x.old(three), 1000000);
        x.bore(0, 2, 1);
        D.due("no hose", x.old(none), 1000000);
        D.due("one length of age 1", x.old(one), 990000);
        D.due("three of age 1", x.old(three), 970299);
        x.bore(0, 2, 99);
        D.due("one of age 99", x.old(one), 10000);
        D.due("three of age 99", x.old(three), 1);
        x.bore(0, 2, 0);
        x.bore(1, 2, 99);
        D.due("another bore's age", x.old(three), 1000000);
    }

    private static void cutAtEach() {
        D.sentence("OLD: chance (millionths, cut at each), BORE by BORE");
        OverHill x = Made.row(2, 4);
        int l = Made.lay(x, 0, 0, 1, 0, 0, 1, 1, 1);
        x.bore(0, 2, 99);
        x.bore(1, 2, 50);
        // 1000000, 10000, 100; then 50, 25, 12, 6: not 6.25 cut once.
        D.due("100 halved four times", x.old(l), 6);
        x.bore(1, 2, 49);
        // 51, 26, 13, 6.
        D.due("100 by 51 hundredths four times", x.old(l), 6);
        int three = Made.lay(x, 0, 0, 1, 0, 0, 1, 1, 1, 1, 1, 1);
        x.bore(1, 2, 40);
        // 60, 36, 21, 12, 7, 4, 2, 1: by 0.6 ^ 8 it would be 1.67.
        D.due("100 by 60 hundredths eight times", x.old(three), 1);
        OverHill y = Made.row(1, 1, 1);
        int back = Made.lay(y, 0, 0, 1, 0, 2, 1, 1, 1, 1, 2, 0);
        y.bore(0, 2, 99);
        y.bore(1, 2, 93);
        y.bore(2, 2, 93);
        // By bore 0 first: 10000, 700, 49.
        D.due("as they stand by number", y.old(back), 49);
        OverHill z = Made.row(3, 1);
        int order = Made.lay(z, 0, 0, 1, 0, 1, 1, 1, 0);
        z.bore(0, 2, 35);
        z.bore(1, 2, 99);
        // 650000, 6500, 65, 0: the other way about 10000, 100, 1, 0.
        D.due("all is cut to nothing", z.old(order), 0);
        z.bore(1, 2, 97);
        // 650000, 19500, 585, 17; the other way about 30000, 900, 27, 17.
        D.due("0.65 and three of 0.03", z.old(order), 17);
        z.bore(0, 2, 45);
        // 550000, 16500, 495, 14.
        D.due("0.55 and three of 0.03", z.old(order), 14);
    }

    private static void boreByBore() {
        D.sentence("OLD: BORE by BORE");
        int[][] orders = {{0, 1, 2}, {0, 2, 1}, {1, 0, 2}, {1, 2, 0}, {2, 0, 1}, {2, 1, 0}};
        int[] lengths = {1, 4, 1};
        for (int[] order : orders) {
            OverHill x = Made.row(lengths[order[0]], lengths[order[1]], lengths[order[2]]);
            int l = Made.lay(x, 0, 0, 1, 0, order[0], 1, 1, order[1], 1, 2, order[2]);
            x.bore(0, 2, 85);
            x.bore(1, 2, 63);
            x.bore(2, 2, 14);
            // 150000; 55500, 20535, 7597, 2810; 2416. In any other order of bores it would be 2417.
            D.due("laid as " + order[0] + order[1] + order[2], x.old(l), 2416);
        }
    }

    private static void oldTwice() {
        D.sentence("OLD: for each LENGTH of HOSE (twice those that lie in two lines)");
        OverHill x = Made.row(1);
        x.bore(0, 2, 50);
        int[] due = {500000, 500000, 250000, 500000, 250000, 500000};
        for (int kind = 0; kind < 6; kind++) {
            D.due("kind " + kind, x.old(Made.lay(x, kind, 0, 1, 0, 0)), due[kind]);
        }
    }

    private static void oldRefused() {
        D.sentence("OLD. BAD");
        OverHill x = Made.row(1);
        int l = x.laying(0, 0);
        D.each("old", new int[] {-1, 1, 19, 20, MIN, MAX}, g -> x.old(g), BAD);
        D.due("old", x.old(l), 1000000);
    }

    private static void changes() {
        D.sentence("CHANGES (HEIGHTS, AGES, MOST, STORES) can be UNDONE");
        OverHill x = Made.points(5, 6);
        x.height(1, 7);
        D.due("a height", x.count(7), 1);
        x.bore(2, 2, 8);
        D.due("an age", x.count(7), 2);
        x.bore(1, 0, 9);
        D.due("a most", x.count(7), 3);
        x.bore(0, 1, 10);
        D.due("a store", x.count(7), 4);
        D.due("undo()", x.undo(), 3);
        D.due("undo()", x.undo(), 2);
        D.due("undo()", x.undo(), 1);
        D.due("undo()", x.undo(), 0);
        D.due("height", x.height(1, 6), 6);
        D.due("age", x.bore(2, 2, 0), 0);
        D.due("most", x.bore(1, 0, 20000), 20000);
        D.due("store", x.bore(0, 1, 30), 30);
        x.way(0, 1, 3);
        x.engine(1, 1);
        Made.table(x, "b0:5");
        x.part(x.laying(0, 0), 0, 0, 0);
        x.load(5);
        x.thing(1, 1);
        x.row(0, 0, 5);
        x.put(0, 0, 5);
        x.keep(1, 0);
        D.due("nothing else is a change", x.undo(), STATE);
        D.due("nothing else is a change", x.count(7), 0);
    }

    private static void sameNumberIsNone() {
        D.sentence("telling the same number is none");
        OverHill x = Made.points(5);
        x.height(0, 5);
        for (int bore = 0; bore < 3; bore++) {
            x.bore(bore, 0, 20000);
            x.bore(bore, 1, 30);
            x.bore(bore, 2, 0);
        }
        D.due("none", x.count(7), 0);
        D.due("none", x.undo(), STATE);
        x.height(0, 6);
        x.height(0, 6);
        D.due("one", x.count(7), 1);
        D.due("undo()", x.undo(), 0);
        x.height(0, 5);
        D.due("the same hinders no redo", x.redo(), 0);
        D.due("6 again", x.height(0, 6), 6);
    }

    private static void latestFirst() {
        D.sentence("UNDONE, the latest first: how many may still be");
        OverHill x = Made.points(0);
        for (int i = 1; i <= 5; i++) {
            x.height(0, 10 * i);
        }
        for (int i = 4; i >= 0; i--) {
            D.due("undo()", x.undo(), i);
            D.due("it is as it was", x.height(0, 10 * i), 10 * i);
        }
        D.due("none is left", x.undo(), STATE);
    }

    private static void doneAgain() {
        D.sentence("DONE AGAIN: how many may still be. STATE: none");
        OverHill x = Made.points(0);
        D.due("none was done", x.redo(), STATE);
        for (int i = 1; i <= 3; i++) {
            x.height(0, i);
            D.due("none was undone", x.redo(), STATE);
        }
        x.undo();
        x.undo();
        x.undo();
        for (int i = 1; i <= 3; i++) {
            D.due("redo()", x.redo(), 3 - i);
            D.due("it is so again", x.height(0, i), i);
            D.due("so many may be undone", x.count(7), i);
        }
        D.due("none is left", x.redo(), STATE);
        D.due("undo()", x.undo(), 2);
        D.due("redo()", x.redo(), 0);
    }

    private static void anotherCameBehind() {
        D.sentence("DONE AGAIN (as long as no other came behind)");
        OverHill x = Made.points(0);
        x.height(0, 1);
        x.height(0, 2);
        x.undo();
        x.bore(0, 2, 1);
        D.due("another came", x.redo(), STATE);
        D.due("it is 1 still", x.height(0, 1), 1);
        D.due("two may be undone", x.undo(), 1);
        D.due("the age may be done again", x.redo(), 0);
        x.undo();
        x.bore(0, 2, 100);
        D.due("what is BAD came not", x.redo(), 0);
        x.undo();
        x.undo();
        x.height(0, 1);
        D.due("the very same one is another too", x.redo(), STATE);
        D.due("it may be undone", x.undo(), 0);
        D.due("it was 0", x.height(0, 0), 0);
    }

    private static void fortyAtMost() {
        D.sentence("40 at most are kept");
        OverHill x = Made.points(0);
        for (int i = 1; i <= 40; i++) {
            x.height(0, i);
            D.due("kept", x.count(7), i);
        }
        x.height(0, 41);
        D.due("40 are kept", x.count(7), 40);
        x.bore(0, 2, 7);
        D.due("40 are kept", x.count(7), 40);
        for (int i = 39; i >= 0; i--) {
            D.due("undo()", x.undo(), i);
        }
        D.due("no more", x.undo(), STATE);
        D.due("the first two stay done", x.height(0, 2), 2);
        D.due("the age is undone", x.bore(0, 2, 0), 0);
        OverHill y = Made.points(0);
        for (int i = 1; i <= 40; i++) {
            y.height(0, i);
        }
        for (int i = 39; i >= 0; i--) {
            D.due("undo()", y.undo(), i);
        }
        D.due("of 40 all are undone", y.height(0, 0), 0);
    }

    private static void fortyAndRedo() {
        D.sentence("40 at most are kept (and DONE AGAIN)");
        OverHill x = Made.points(0);
        for (int i = 1; i <= 60; i++) {
            x.height(0, i);
        }
        for (int i = 0; i < 40; i++) {
            x.undo();
        }
        D.due("20 stand", x.height(0, 20), 20);
        for (int i = 39; i >= 0; i--) {
            D.due("redo()", x.redo(), i);
            D.due("each as it was", x.height(0, 60 - i), 60 - i);
        }
        D.due("no more", x.redo(), STATE);
        x.undo();
        x.height(0, 61);
        D.due("40 again", x.count(7), 40);
        x.height(0, 62);
        D.due("40 still", x.count(7), 40);
        D.due("undo()", x.undo(), 39);
        D.due("61", x.height(0, 61), 61);
        D.due("undo()", x.undo(), 38);
        D.due("59", x.height(0, 59), 59);
    }

    private static void fortyOfAllSorts() {
        D.sentence("CHANGES (HEIGHTS, AGES, MOST, STORES); 40 at most are kept: what each was, and what it became");
        OverHill x = Made.points(0);
        for (int i = 1; i <= 50; i++) {
            byTurns(x, i, i);
        }
        for (int i = 50; i > 10; i--) {
            D.due("undo()", x.undo(), i - 11);
            D.due("change " + i + " is undone", byTurns(x, i, i - 4), i - 4);
        }
        D.due("no more", x.undo(), STATE);
        D.due("change 10 stands", byTurns(x, 10, 10), 10);
        for (int i = 11; i <= 50; i++) {
            D.due("redo()", x.redo(), 50 - i);
            D.due("change " + i + " is done again", byTurns(x, i, i), i);
        }
        D.due("no more", x.redo(), STATE);
    }

    /** By turns a height, a most, a store, an age become v: what it was (where it is v, nothing changes). */
    private static int byTurns(OverHill x, int turn, int v) {
        return turn % 4 == 0 ? x.height(0, v) : x.bore(1, turn % 4 - 1, v);
    }

    private static void undoAnswers() {
        D.sentence("undo: STATE: none; redo: STATE: none");
        OverHill x = new OverHill();
        D.due("undo()", x.undo(), STATE);
        D.due("redo()", x.redo(), STATE);
        D.due("none", x.count(7), 0);
        x.bore(0, 0, 1);
        D.due("undo()", x.undo(), 0);
        D.due("undo()", x.undo(), STATE);
        D.due("it is undone once", x.redo(), 0);
        D.due("redo()", x.redo(), STATE);
        D.due("it is done once", x.undo(), 0);
        D.due("20000", x.bore(0, 0, 20000), 20000);
    }
}
