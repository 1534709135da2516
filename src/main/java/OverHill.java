/**
 * Water over a hill: engines and hose set one behind the other, from the only water up to a fire.
 * The public methods look at what they are told and answer; the classes inside hold and reckon.
 */
public final class OverHill {
    public static final int BAD = -1, NOT = -2, FULL = -3, BIG = -4, STATE = -5, VOID = -2000000000;

    private static final int NOTHING_THERE = -11, OTHER_KIND = -12, NO_PLACE = -13, SIZE_BELOW_0 = -14;
    private static final int MOST_POINTS = 12, MOST_WAYS = 20, BORES = 3, MOST_ENGINES = 6;
    private static final int MOST_LAYINGS = 20, MOST_PARTS = 24, SHELVES = 6, MOST_ELEMENTS = 60;
    private static final int MOST_FLOW = 600, MOST_NEED = 99999, LACKS = 100, FOOT = 43;
    private static final int MOST_HEIGHT = 999, MOST_FUEL = 999, FAULTS = -100;

    /** Long.MIN_VALUE, told without the library: of Long it lends functions alone. */
    private static final long NO_ELEMENT = 1L << 63;

    /** So many halvings leave one of no flow and the flows 0 .. 600. */
    private static final int HALVINGS = 10;

    private static final int ENGINE = 0, WAY = 1, TUB = 2;
    private static final int KINDS = 6, TWO = 2, TUBBED = 3, JOINED = 4;
    private static final int[] KIND_ABOVE = {-1, 0, 0, 1, 2, 0};

    /** Where in the settings the numbers of bores and the heights of points stand. */
    private static final int MOST_OF = 0, STORE_OF = 3, AGE_OF = 6, HEIGHT_OF = 9, ALL_SETTINGS = 21;
    private static final int[] MOST_SETTING = {99999, 99, 99};

    /** How a laying is asked about: as it stands, or with one thing otherwise. */
    private static final int AS_IT_IS = 0, WITHOUT = 1, TUB_AHEAD = 2, ONE_LINE = 3;

    private final Settings settings;
    private final Ground ground;
    private final Gear gear;
    private final Tape tape;
    private final Laying[] layings;
    private final Course course;
    private final Search search;
    private final Hands hands;
    private final Cart things;
    private final Acts acts;
    private final Shelf[] shelves;
    private int layingCount;

    public OverHill() {
        settings = new Settings();
        ground = new Ground(settings);
        gear = new Gear(settings);
        tape = new Tape();
        layings = new Laying[MOST_LAYINGS];
        course = new Course(ground, gear);
        search = new Search(ground, gear);
        hands = new Hands();
        things = new Cart();
        acts = new Acts();
        shelves = new Shelf[SHELVES];
        for (int i = 0; i < shelves.length; i++) {
            shelves[i] = new Shelf();
        }
    }

    // ---- ground, hose, engines

    public int point(int height) {
        return within(height, 0, MOST_HEIGHT) ? ground.addPoint(height) : BAD;
    }

    public int height(int point, int v) {
        if (!ground.isPoint(point) || !within(v, 0, MOST_HEIGHT)) {
            return BAD;
        }
        return settings.become(HEIGHT_OF + point, v);
    }

    public int way(int from, int to, int lengths) {
        if (!ground.isPoint(from) || !ground.isPoint(to) || from == to || !within(lengths, 1, 30)) {
            return BAD;
        }
        return ground.addWay(from, to, lengths);
    }

    public int bore(int bore, int what, int v) {
        if (!isBore(bore) || !within(what, 0, 2) || !within(v, 0, MOST_SETTING[what])) {
            return BAD;
        }
        return settings.become(what * BORES + bore, v);
    }

    public int engine(int fuel, int speed) {
        return within(fuel, 0, MOST_FUEL) && within(speed, 1, 9) ? gear.addEngine(fuel, speed) : BAD;
    }

    public int feed(int n, int v) {
        return within(n, 1, 4) ? tape.take(n, v) : BAD;
    }

    public int table() {
        return tape.readInto(gear);
    }

    public int loses(int bore, int flow) {
        return isBore(bore) && isFlow(flow) ? gear.lost(bore, flow) : BAD;
    }

    public int lifts(int engine, int flow) {
        return gear.isEngine(engine) && isFlow(flow) ? gear.lifted(engine, flow) : BAD;
    }

    // ---- layings

    public int laying(int kind, int point) {
        if (!isKind(kind) || !ground.isPoint(point)) {
            return BAD;
        }
        if (layingCount >= MOST_LAYINGS) {
            return FULL;
        }
        layings[layingCount] = new Laying(layingCount, kind, point);
        return layingCount++;
    }

    public int part(int laying, int sort, int number, int bore) {
        Laying told = layingAt(laying);
        return told == null ? BAD : addPart(told, sort, number, bore);
    }

    public int parts(int laying, int shelf, int i, int n) {
        Laying told = layingAt(laying);
        Shelf from = shelfAt(shelf);
        if (told == null || from == null || !within(n, 1, 20)) {
            return BAD;
        }
        if (from.holds == Shelf.A_LAYING || from.holds == Shelf.A_ROW && from.sort != Shelf.BYTES) {
            return OTHER_KIND;
        }
        return from.holds == Shelf.NOTHING ? 0 : addParts(told, from, i, n);
    }

    public int of(int laying, int what) {
        Laying told = layingAt(laying);
        if (told == null || what < 0) {
            return BAD;
        }
        if (what >= 100) {
            return ofPart(told, what / 100, what % 100);
        }
        switch (what) {
            case 0:
                return told.kind;
            case 1:
                return told.parts;
            case 2:
                return told.end();
            case 3:
            case 4:
            case 5:
                return hoseOf(told, what - 3);
            default:
                return BAD;
        }
    }

    public int pressure(int laying, int part, int flow) {
        Laying told = layingAt(laying);
        if (told == null || !told.isPart(part) || !isFlow(flow)) {
            return VOID;
        }
        course.lay(told, AS_IT_IS, 0);
        return course.pressureBehind(part, flow);
    }

    public int flow(int laying, int need) {
        Laying told = layingAt(laying);
        return told == null || !isNeed(need) ? BAD : flowWith(told, need, AS_IT_IS, 0);
    }

    public int judge(int laying, int flow, int need) {
        Laying told = layingAt(laying);
        if (told == null || !isFlow(flow) || !isNeed(need)) {
            return BAD;
        }
        course.lay(told, AS_IT_IS, 0);
        return course.judged(flow, need, true);
    }

    public int bound(int laying, int need) {
        Laying told = layingAt(laying);
        if (told == null || !isNeed(need)) {
            return BAD;
        }
        // A lesser flow leaves no part with less pressure: what bursts at FLOW bursts below it too.
        int greatest = flowWith(told, need, AS_IT_IS, 0);
        return greatest != NOT && course.judged(greatest, need, true) == NOT ? greatest : NOT;
    }

    // ---- the most

    public int most(int laying, int need, int what) {
        Laying told = layingAt(laying);
        if (told == null || !isNeed(need) || !within(what, 0, 2)) {
            return BAD;
        }
        if (!search.take(told)) {
            return BIG;
        }
        int greatest = search.greatest(need);
        if (greatest == NOT || what == 0) {
            return greatest;
        }
        return what == 1 ? search.bores : search.places;
    }

    public int worth(int laying, int part, int need) {
        Laying told = layingAt(laying);
        if (told == null || !told.isSort(part, ENGINE) || !isNeed(need)) {
            return VOID;
        }
        int with = flowWith(told, need, AS_IT_IS, 0);
        int without = flowWith(told, need, WITHOUT, part);
        return Math.max(0, with) - Math.max(0, without);
    }

    public int helps(int laying, int need, int what) {
        Laying told = layingAt(laying);
        if (told == null || told.parts == 0 || !isNeed(need) || !within(what, 0, 1)) {
            return BAD;
        }
        int where = NOT;
        int greatest = NOT;
        for (int part = 0; part < told.parts; part++) {
            int then = flowWith(told, need, TUB_AHEAD, part);
            if (then > greatest) {
                where = part;
                greatest = then;
            }
        }
        return what == 0 ? where : greatest;
    }

    public int goes(int laying, int part, int need) {
        Laying told = layingAt(laying);
        if (told == null || !told.isSort(part, WAY) || !isNeed(need)) {
            return BAD;
        }
        return told.lines(part, -1) == 2 ? Math.max(0, flowWith(told, need, ONE_LINE, part)) : 0;
    }

    public int changed(int laying, int part) {
        Laying told = layingAt(laying);
        if (told == null || !told.isSort(part, WAY)) {
            return BAD;
        }
        int lengths = ground.lengthsOf(told.numbers[part]);
        return told.lines(part, -1) == 2 ? 0 : (lengths + 4) / 5 + 1;
    }

    // ---- minutes, fuel, shares

    public int load(int minutes) {
        return within(minutes, 1, 99) ? hands.add(minutes) : BAD;
    }

    public int minutes(int k, int what) {
        if (!within(k, 1, Hands.MOST_HANDS) || !within(what, 0, 1)) {
            return BAD;
        }
        if (hands.count == 0) {
            return STATE;
        }
        hands.carry(k);
        return what == 0 ? hands.least : hands.by;
    }

    public int unload() {
        int were = hands.count;
        hands.count = 0;
        return were;
    }

    public int soon(int engine, int from, int to) {
        if (!gear.isEngine(engine) || !ground.isPoint(from) || !ground.isPoint(to)) {
            return BAD;
        }
        return ground.soonest(gear.speeds[engine], from, to);
    }

    public int lasts(int laying) {
        Laying told = layingAt(laying);
        if (told == null) {
            return BAD;
        }
        int least = MOST_FUEL;
        for (int part = 0; part < told.parts; part++) {
            int number = told.numbers[part];
            if (told.sorts[part] == ENGINE && gear.isEngine(number)) {
                least = Math.min(least, gear.fuels[number]);
            }
        }
        return least;
    }

    public int turn(int engines, int b) {
        if (engines <= 0 || engines >= 1 << gear.engines || !within(b, 0, 99)) {
            return BAD;
        }
        int minutes = 0;
        for (int engine = 0; engine < gear.engines; engine++) {
            if ((engines >> engine & 1) == 1) {
                minutes += gear.fuels[engine];
            }
        }
        return minutes - b * (Integer.bitCount(engines) - 1);
    }

    public int share(int lo, int need, int water, int what) {
        Laying one = layingAt(lo / 100);
        Laying other = layingAt(lo % 100);
        if (lo < 0 || one == null || other == null || one == other) {
            return BAD;
        }
        if (!isNeed(need) || !within(water, 0, MOST_FLOW) || !within(what, 0, 1)) {
            return BAD;
        }
        int mostOfOne = Math.max(0, flowWith(one, need, AS_IT_IS, 0));
        int mostOfOther = Math.max(0, flowWith(other, need, AS_IT_IS, 0));
        int lesser = Math.min(water / 2, Math.min(mostOfOne, mostOfOther));
        int both = Math.min(water, mostOfOne + mostOfOther);
        int first = Math.min(mostOfOne, both - lesser);
        return what == 0 ? first : both - first;
    }

    public int thing(int weight, int worths) {
        return within(weight, 1, 99) && within(worths, 0, 999999) ? things.add(weight, worths) : BAD;
    }

    public int cart(int most, int chances, int what) {
        if (most < 0 || !within(chances, 0, 1030300) || !within(what, 0, 1)) {
            return BAD;
        }
        if (things.count == 0) {
            return STATE;
        }
        things.pack(most, chances);
        return what == 0 ? things.sum : things.set;
    }

    public int unthing() {
        int were = things.count;
        things.count = 0;
        return were;
    }

    public int old(int laying) {
        Laying told = layingAt(laying);
        if (told == null) {
            return BAD;
        }
        int chance = 1000000;
        for (int bore = 0; bore < BORES; bore++) {
            int holds = Math.max(0, 1000 - 10 * settings.at(AGE_OF + bore));
            int lengths = hoseOf(told, bore);
            for (int i = 0; i < lengths && holds < 1000; i++) {
                chance = chance * holds / 1000;
            }
        }
        return chance;
    }

    public int undo() {
        return settings.takeBack();
    }

    public int redo() {
        return settings.doAgain();
    }

    // ---- acts, shelves

    public int act(int laying, int act, int x) {
        Laying told = layingAt(laying);
        if (told == null || !within(act, Acts.LIFTS, Acts.TELLS)) {
            acts.ran = 0;
            return 0;
        }
        return acts.lead(told, act, x);
    }

    public int trace(int i) {
        return acts.bodyAt(i);
    }

    public int keep(int shelf, int laying) {
        Shelf on = shelfAt(shelf);
        Laying told = layingAt(laying);
        if (on == null || told == null && laying != -1) {
            return BAD;
        }
        on.holds = told == null ? Shelf.NOTHING : Shelf.A_LAYING;
        on.laying = told;
        return 1;
    }

    public int row(int shelf, int sort, int n) {
        Shelf on = shelfAt(shelf);
        if (on == null || !within(sort, Shelf.BYTES, Shelf.BOOLEANS) || n > MOST_ELEMENTS) {
            return BAD;
        }
        if (n < 0) {
            return SIZE_BELOW_0;
        }
        on.holdRow(sort, n);
        return 1;
    }

    public int put(int shelf, int i, long v) {
        Shelf on = shelfAt(shelf);
        if (on == null) {
            return BAD;
        }
        int refusal = on.refusal(i, 1);
        if (refusal != 0) {
            return refusal;
        }
        on.elements[i] = on.lowest(v);
        return 1;
    }

    public long element(int shelf, int i) {
        Shelf on = shelfAt(shelf);
        return on == null || on.refusal(i, 1) != 0 ? NO_ELEMENT : on.elements[i];
    }

    public int shift(int shelf, int i, int other, int j, int n) {
        Shelf from = shelfAt(shelf);
        Shelf to = shelfAt(other);
        if (from == null || to == null) {
            return BAD;
        }
        if (from.holds == Shelf.NOTHING || to.holds == Shelf.NOTHING) {
            return NOTHING_THERE;
        }
        if (from.holds != Shelf.A_ROW || to.holds != Shelf.A_ROW || from.sort != to.sort) {
            return OTHER_KIND;
        }
        if (from.refusal(i, n) != 0 || to.refusal(j, n) != 0) {
            return NO_PLACE;
        }
        System.arraycopy(from.elements, i, to.elements, j, n);
        return n;
    }

    public int taken(int shelf, int k) {
        Shelf on = shelfAt(shelf);
        if (on == null || !isKind(k)) {
            return BAD;
        }
        if (on.holds == Shelf.NOTHING) {
            return NOTHING_THERE;
        }
        return on.laying == null || !isUnder(on.laying.kind, k) ? OTHER_KIND : on.laying.kind;
    }

    public int count(int what) {
        switch (what) {
            case 0:
                return ground.points;
            case 1:
                return ground.ways;
            case 2:
                return gear.engines;
            case 3:
                return layingCount;
            case 4:
                return tape.length;
            case 5:
                return hands.count;
            case 6:
                return things.count;
            case 7:
                return settings.done;
            case 8:
                return acts.ran;
            default:
                return BAD;
        }
    }

    // ---- what the calls share

    private static boolean within(int v, int least, int greatest) {
        return v >= least && v <= greatest;
    }

    private static boolean isBore(int bore) {
        return within(bore, 0, BORES - 1);
    }

    private static boolean isFlow(int flow) {
        return within(flow, 0, MOST_FLOW);
    }

    private static boolean isNeed(int need) {
        return within(need, 0, MOST_NEED);
    }

    private static boolean isKind(int kind) {
        return within(kind, 0, KINDS - 1);
    }

    private static boolean isUnder(int kind, int other) {
        int at = kind;
        for (int step = 0; step < KINDS && isKind(at); step++) {
            if (at == other) {
                return true;
            }
            at = KIND_ABOVE[at];
        }
        return false;
    }

    private Laying layingAt(int number) {
        return within(number, 0, layingCount - 1) ? layings[number] : null;
    }

    private Shelf shelfAt(int number) {
        return within(number, 0, SHELVES - 1) ? shelves[number] : null;
    }

    private int flowWith(Laying laying, int need, int otherwise, int part) {
        course.lay(laying, otherwise, part);
        return course.greatest(need);
    }

    private int addPart(Laying laying, int sort, int number, int bore) {
        int end = laying.end();
        if (sort == WAY) {
            end = isBore(bore) ? ground.otherEnd(number, end) : -1;
        } else if (sort == ENGINE) {
            end = gear.isEngine(number) ? end : -1;
        } else if (sort != TUB || laying.kind != TUBBED) {
            end = -1;
        }
        if (end < 0) {
            return BAD;
        }
        if (sort == ENGINE && gear.stands[number]) {
            return STATE;
        }
        if (laying.parts >= MOST_PARTS) {
            return FULL;
        }
        if (sort == ENGINE) {
            gear.stands[number] = true;
        }
        laying.add(sort, sort == TUB ? -1 : number, sort == WAY ? bore : -1, end);
        return laying.parts;
    }

    private int addParts(Laying laying, Shelf row, int i, int n) {
        int came = 0;
        int at = i;
        while (came < n && at >= 0 && at <= row.length - 3) {
            int sort = (int) row.elements[at];
            int number = (int) row.elements[at + 1];
            int bore = (int) row.elements[at + 2];
            if (addPart(laying, sort, number, bore) < 0) {
                return came;
            }
            came++;
            at += 3;
        }
        return came;
    }

    private static int ofPart(Laying laying, int which, int part) {
        if (!laying.isPart(part)) {
            return BAD;
        }
        switch (which) {
            case 1:
                return laying.sorts[part];
            case 2:
                return laying.numbers[part];
            case 3:
                return laying.bores[part];
            default:
                return BAD;
        }
    }

    private int hoseOf(Laying laying, int bore) {
        int hose = 0;
        for (int part = 0; part < laying.parts; part++) {
            if (laying.sorts[part] == WAY && laying.bores[part] == bore) {
                hose += laying.lines(part, -1) * ground.lengthsOf(laying.numbers[part]);
            }
        }
        return hose;
    }

    /** The numbers that can be told anew, and what changed in them, to be undone and done again. */
    private static final class Settings {
        static final int MOST_KEPT = 40;
        final int[] values = new int[ALL_SETTINGS];
        final int[] places = new int[MOST_KEPT];
        final int[] before = new int[MOST_KEPT];
        final int[] behind = new int[MOST_KEPT];
        int kept;
        int done;

        Settings() {
            for (int bore = 0; bore < BORES; bore++) {
                values[MOST_OF + bore] = 20000;
                values[STORE_OF + bore] = 30;
            }
        }

        int at(int place) {
            return place >= 0 && place < values.length ? values[place] : 0;
        }

        void begin(int place, int v) {
            if (place >= 0 && place < values.length) {
                values[place] = v;
            }
        }

        int become(int place, int v) {
            int was = at(place);
            if (was != v) {
                note(place, was, v);
                begin(place, v);
            }
            return was;
        }

        private void note(int place, int was, int v) {
            if (done >= MOST_KEPT) {
                forgetFirst(places);
                forgetFirst(before);
                forgetFirst(behind);
                done = MOST_KEPT - 1;
            }
            places[done] = place;
            before[done] = was;
            behind[done] = v;
            done++;
            kept = done;
        }

        private static void forgetFirst(int[] row) {
            System.arraycopy(row, 1, row, 0, row.length - 1);
        }

        int takeBack() {
            if (done <= 0) {
                return STATE;
            }
            done--;
            begin(places[done], before[done]);
            return done;
        }

        int doAgain() {
            if (done >= kept) {
                return STATE;
            }
            begin(places[done], behind[done]);
            done++;
            return kept - done;
        }
    }

    /** Points and the ways between them. */
    private static final class Ground {
        static final int NEVER = 1000000000;
        final Settings settings;
        final int[] from = new int[MOST_WAYS];
        final int[] to = new int[MOST_WAYS];
        final int[] lengths = new int[MOST_WAYS];
        final int[] minutes = new int[MOST_POINTS];
        int points;
        int ways;

        Ground(Settings settings) {
            this.settings = settings;
        }

        boolean isPoint(int point) {
            return point >= 0 && point < points;
        }

        boolean isWay(int way) {
            return way >= 0 && way < ways;
        }

        int addPoint(int height) {
            if (points >= MOST_POINTS) {
                return FULL;
            }
            settings.begin(HEIGHT_OF + points, height);
            return points++;
        }

        int addWay(int a, int b, int howLong) {
            if (ways >= MOST_WAYS) {
                return FULL;
            }
            from[ways] = a;
            to[ways] = b;
            lengths[ways] = howLong;
            return ways++;
        }

        int lengthsOf(int way) {
            return isWay(way) ? lengths[way] : 0;
        }

        /** The point to which a way leads from this one; -1: it does not touch this one. */
        int otherEnd(int way, int point) {
            if (!isWay(way)) {
                return -1;
            }
            if (from[way] == point) {
                return to[way];
            }
            return to[way] == point ? from[way] : -1;
        }

        int feet(int low, int high) {
            return settings.at(HEIGHT_OF + high) - settings.at(HEIGHT_OF + low);
        }

        int soonest(int speed, int a, int b) {
            if (speed < 1 || !isPoint(a) || !isPoint(b)) {
                return NOT;
            }
            for (int point = 0; point < points; point++) {
                minutes[point] = NEVER;
            }
            minutes[a] = 0;
            for (int round = 0; round < points; round++) {
                for (int way = 0; way < ways; way++) {
                    int takes = (lengths[way] + speed - 1) / speed;
                    hasten(from[way], to[way], takes);
                    hasten(to[way], from[way], takes);
                }
            }
            return minutes[b] >= NEVER ? NOT : minutes[b];
        }

        private void hasten(int a, int b, int takes) {
            if (minutes[a] + takes < minutes[b]) {
                minutes[b] = minutes[a] + takes;
            }
        }
    }

    /** Bores and engines with their tables: those of bores first, those of engines behind them. */
    private static final class Gear {
        static final int MOST_NUMBERS = 13, STEP = 50;
        final Settings settings;
        final int[] fuels = new int[MOST_ENGINES];
        final int[] speeds = new int[MOST_ENGINES];
        final boolean[] stands = new boolean[MOST_ENGINES];
        final int[] numbers = new int[(BORES + MOST_ENGINES) * MOST_NUMBERS];
        final int[] told = new int[BORES + MOST_ENGINES];
        int engines;

        Gear(Settings settings) {
            this.settings = settings;
        }

        boolean isEngine(int engine) {
            return engine >= 0 && engine < engines;
        }

        int addEngine(int fuel, int speed) {
            if (engines >= MOST_ENGINES) {
                return FULL;
            }
            fuels[engines] = fuel;
            speeds[engines] = speed;
            return engines++;
        }

        void tellTable(int table, int[] from, int n) {
            System.arraycopy(from, 0, numbers, table * MOST_NUMBERS, n);
            told[table] = n;
        }

        int lost(int bore, int flow) {
            int anew = told[bore] == 0 ? flow / 10 : between(bore, flow);
            return anew * (100 + settings.at(AGE_OF + bore)) / 100;
        }

        int lifted(int engine, int flow) {
            int table = BORES + engine;
            return told[table] == 0 ? Math.max(0, 10000 - 10 * flow) : between(table, flow);
        }

        private int between(int table, int flow) {
            int first = table * MOST_NUMBERS;
            int last = told[table] - 1;
            int step = flow / STEP;
            if (step >= last) {
                return numbers[first + last];
            }
            int r = flow % STEP;
            return (numbers[first + step] * (STEP - r) + numbers[first + step + 1] * r) / STEP;
        }
    }

    /** Bytes that come one by one, till they are read as a table. */
    private static final class Tape {
        static final int MOST_BYTES = 120, MOST_DIGITS = 5;
        final byte[] bytes = new byte[MOST_BYTES];
        final int[] numbers = new int[Gear.MOST_NUMBERS];
        int length;
        int place;

        int take(int n, int v) {
            if (length + n > MOST_BYTES) {
                return FULL;
            }
            for (int i = 0; i < n; i++) {
                bytes[length] = (byte) (v >> 8 * i);
                length++;
            }
            return length;
        }

        int readInto(Gear gear) {
            int table = readHead(gear.engines);
            int n = table < 0 ? -1 : readNumbers(table < BORES);
            length = 0;
            if (n < 0) {
                return FAULTS - place;
            }
            gear.tellTable(table, numbers, n);
            return n;
        }

        /** The byte there; -1 behind the last one, so that an early end is the fault at its place. */
        private int byteAt(int i) {
            return i >= 0 && i < length ? bytes[i] & 255 : -1;
        }

        /** The table of which the tape tells; -1: the fault is at the place. */
        private int readHead(int engines) {
            place = 0;
            int letter = byteAt(0);
            if (letter != 'b' && letter != 'e') {
                return -1;
            }
            place = 1;
            int digit = byteAt(1) - '0';
            if (digit < 0 || digit >= (letter == 'b' ? BORES : engines)) {
                return -1;
            }
            place = 2;
            if (byteAt(2) != ':') {
                return -1;
            }
            place = 3;
            return letter == 'b' ? digit : BORES + digit;
        }

        /** How many numbers there are up to the end; -1: the fault is at the place. */
        private int readNumbers(boolean rises) {
            for (int n = 0; n < numbers.length; n++) {
                if (!readNumber(n, rises)) {
                    return -1;
                }
                if (place >= length) {
                    return n + 1;
                }
                if (byteAt(place) != ',' || n == numbers.length - 1) {
                    return -1;
                }
                place++;
            }
            return -1;
        }

        private boolean readNumber(int n, boolean rises) {
            int first = place;
            int v = 0;
            for (int i = 0; i < MOST_DIGITS && isDigit(byteAt(place)); i++) {
                v = v * 10 + byteAt(place) - '0';
                place++;
            }
            if (place == first) {
                return false;
            }
            if (n > 0 && (rises ? v < numbers[n - 1] : v > numbers[n - 1])) {
                place = first;
                return false;
            }
            numbers[n] = v;
            return true;
        }

        private static boolean isDigit(int b) {
            return b >= '0' && b <= '9';
        }
    }

    /** A laying: parts in their order, each with the point where it ends. */
    private static final class Laying {
        final int number;
        final int kind;
        final int start;
        final int[] sorts = new int[MOST_PARTS];
        final int[] numbers = new int[MOST_PARTS];
        final int[] bores = new int[MOST_PARTS];
        final int[] ends = new int[MOST_PARTS];
        int parts;

        Laying(int number, int kind, int start) {
            this.number = number;
            this.kind = kind;
            this.start = start;
        }

        boolean isPart(int part) {
            return part >= 0 && part < parts;
        }

        boolean isSort(int part, int sort) {
            return isPart(part) && sorts[part] == sort;
        }

        int pointAhead(int part) {
            return isPart(part - 1) ? ends[part - 1] : start;
        }

        int end() {
            return pointAhead(parts);
        }

        void add(int sort, int number, int bore, int end) {
            if (parts < MOST_PARTS) {
                sorts[parts] = sort;
                numbers[parts] = number;
                bores[parts] = bore;
                ends[parts] = end;
                parts++;
            }
        }

        /** In how many lines a way lies, as if one part (-1: none) were not there. */
        int lines(int part, int without) {
            if (kind == TWO) {
                return 2;
            }
            return kind == JOINED && part > lastEngine(without) ? 2 : 1;
        }

        private int lastEngine(int without) {
            for (int part = parts - 1; part >= 0; part--) {
                if (sorts[part] == ENGINE && part != without) {
                    return part;
                }
            }
            return -1;
        }
    }

    /** A laying made ready to be asked: step by step, as it stands or with one thing otherwise. */
    private static final class Course {
        static final int MOST_STEPS = MOST_PARTS + 1;
        final Ground ground;
        final Gear gear;
        final int[] sorts = new int[MOST_STEPS];
        final int[] engines = new int[MOST_STEPS];
        final int[] bores = new int[MOST_STEPS];
        final int[] lengths = new int[MOST_STEPS];
        final int[] lines = new int[MOST_STEPS];
        final int[] climbs = new int[MOST_STEPS];
        int steps;

        Course(Ground ground, Gear gear) {
            this.ground = ground;
            this.gear = gear;
        }

        void lay(Laying laying, int otherwise, int at) {
            int without = otherwise == WITHOUT ? at : -1;
            steps = 0;
            for (int part = 0; part < laying.parts; part++) {
                if (otherwise == TUB_AHEAD && part == at) {
                    sorts[steps] = TUB;
                    steps++;
                }
                if (part != without) {
                    boolean alone = otherwise == ONE_LINE && part == at;
                    addStep(laying, part, alone ? 1 : laying.lines(part, without));
                }
            }
        }

        private void addStep(Laying laying, int part, int inLines) {
            int number = laying.numbers[part];
            sorts[steps] = laying.sorts[part];
            if (laying.sorts[part] == ENGINE) {
                engines[steps] = number;
            } else if (laying.sorts[part] == WAY) {
                bores[steps] = laying.bores[part];
                lengths[steps] = ground.lengthsOf(number);
                lines[steps] = inLines;
                climbs[steps] = FOOT * ground.feet(laying.pointAhead(part), laying.ends[part]);
            }
            steps++;
        }

        private int behind(int step, int ahead, int flow) {
            switch (sorts[step]) {
                case ENGINE:
                    return ahead + gear.lifted(engines[step], flow);
                case WAY:
                    int through = lines[step] == 2 ? (flow + 1) / 2 : flow;
                    return ahead - lengths[step] * gear.lost(bores[step], through) - climbs[step];
                default:
                    return 0;
            }
        }

        int pressureBehind(int part, int flow) {
            int pressure = 0;
            for (int step = 0; step <= part && step < steps; step++) {
                pressure = behind(step, pressure, flow);
            }
            return pressure;
        }

        /** The first step that starves (or bursts, if that is asked); LACKS; NOT: all is well. */
        int judged(int flow, int need, boolean bursts) {
            int pressure = 0;
            for (int step = 0; step < steps; step++) {
                int then = behind(step, pressure, flow);
                if (sorts[step] != WAY) {
                    if (pressure < 0) {
                        return step;
                    }
                } else if (bursts && Math.max(pressure, then) > gear.settings.at(MOST_OF + bores[step])) {
                    return step;
                }
                pressure = then;
            }
            return pressure < need ? LACKS : NOT;
        }

        /**
         * The greatest flow at which nothing starves or lacks; NOT: none. With more flow no length
         * loses less and no engine lifts more (tables keep that order), so halving finds it.
         */
        int greatest(int need) {
            int holds = -1;
            int most = MOST_FLOW;
            for (int step = 0; step < HALVINGS && holds < most; step++) {
                int flow = (holds + most + 1) / 2;
                if (judged(flow, need, false) == NOT) {
                    holds = flow;
                } else {
                    most = flow - 1;
                }
            }
            return holds < 0 ? NOT : holds;
        }
    }

    /** The most of a laying: bores for its ways and places for its engines by which most comes. */
    private static final class Search {
        static final int MOST_SEARCHED = 6, MOST_PLACED = 4;
        final Ground ground;
        final Gear gear;
        final int[] lengths = new int[MOST_SEARCHED];
        final int[] climbs = new int[MOST_SEARCHED];
        final boolean[] tubs = new boolean[MOST_SEARCHED + 1];
        final int[] engineNumbers = new int[MOST_PLACED];
        final int[] raised = new int[MOST_PLACED];
        /** What is lost by one line along a way by a bore; behind them what is lost by two. */
        final int[] drops = new int[2 * MOST_SEARCHED * BORES];
        /** The least pressure ahead of a way (and what stands ahead of it) from which need can be met. */
        final int[] floors = new int[MOST_SEARCHED + 1];
        final int[] left = new int[BORES];
        int kind;
        int ways;
        int engines;
        /** The ways ahead of which an engine stands, as bits. */
        int stood;
        int bores;
        int places;

        Search(Ground ground, Gear gear) {
            this.ground = ground;
            this.gear = gear;
        }

        /** Takes a laying to be searched; false: it is too big. */
        boolean take(Laying laying) {
            kind = laying.kind;
            ways = 0;
            engines = 0;
            tubs[0] = false;
            for (int part = 0; part < laying.parts; part++) {
                if (!takePart(laying, part)) {
                    return false;
                }
            }
            return true;
        }

        private boolean takePart(Laying laying, int part) {
            int number = laying.numbers[part];
            if (laying.sorts[part] == TUB) {
                tubs[ways] = true;
            } else if (laying.sorts[part] == ENGINE) {
                if (engines >= MOST_PLACED) {
                    return false;
                }
                engineNumbers[engines] = number;
                engines++;
            } else {
                if (ways >= MOST_SEARCHED) {
                    return false;
                }
                lengths[ways] = ground.lengthsOf(number);
                climbs[ways] = FOOT * ground.feet(laying.pointAhead(part), laying.ends[part]);
                ways++;
                tubs[ways] = false;
            }
            return true;
        }

        /** The greatest flow, with its first bores and places kept; NOT: none. Halves as a course does. */
        int greatest(int need) {
            int holds = -1;
            int most = MOST_FLOW;
            for (int step = 0; step < HALVINGS && holds < most; step++) {
                int flow = (holds + most + 1) / 2;
                if (comes(flow, need)) {
                    holds = flow;
                } else {
                    most = flow - 1;
                }
            }
            return holds >= 0 && comes(holds, need) ? holds : NOT;
        }

        private boolean comes(int flow, int need) {
            weigh(flow);
            bores = -1;
            places = 0;
            for (int bits = 0; bits < 1 << ways; bits++) {
                if (mayStand(bits)) {
                    stood = bits;
                    setFloors(need);
                    keepFirst(firstBores(this, 0, 0, 0));
                }
            }
            return bores >= 0;
        }

        private boolean mayStand(int bits) {
            return engines == 0 ? bits == 0 : (bits & 1) == 1 && Integer.bitCount(bits) == engines;
        }

        private void keepFirst(int byBores) {
            int byPlaces = 0;
            for (int way = 0; way < ways; way++) {
                byPlaces = standsAhead(way) ? byPlaces * 10 + way : byPlaces;
            }
            if (byBores >= 0 && (bores < 0 || byBores < bores || byBores == bores && byPlaces < places)) {
                bores = byBores;
                places = byPlaces;
            }
        }

        private void weigh(int flow) {
            for (int engine = 0; engine < engines; engine++) {
                raised[engine] = gear.lifted(engineNumbers[engine], flow);
            }
            for (int bore = 0; bore < BORES; bore++) {
                left[bore] = gear.settings.at(STORE_OF + bore);
                int byOne = gear.lost(bore, flow);
                int byTwo = gear.lost(bore, (flow + 1) / 2);
                for (int way = 0; way < ways; way++) {
                    drops[way * BORES + bore] = lengths[way] * byOne + climbs[way];
                    drops[(MOST_SEARCHED + way) * BORES + bore] = lengths[way] * byTwo + climbs[way];
                }
            }
        }

        private boolean standsAhead(int way) {
            return (stood >> way & 1) == 1;
        }

        private int lines(int way) {
            return kind == TWO || kind == JOINED && stood >> way + 1 == 0 ? 2 : 1;
        }

        private int drop(int way, int bore) {
            return drops[(MOST_SEARCHED * (lines(way) - 1) + way) * BORES + bore];
        }

        /** What the engine ahead of a way lifts, if one stands there. */
        private int raisedAhead(int way) {
            int engine = Integer.bitCount(stood & (1 << way) - 1);
            return standsAhead(way) && engine < engines ? raised[engine] : 0;
        }

        private void setFloors(int need) {
            int floor = behindTub(ways, need);
            floors[ways] = floor;
            for (int way = ways - 1; way >= 0; way--) {
                floor += Math.min(drop(way, 0), Math.min(drop(way, 1), drop(way, 2)));
                if (standsAhead(way)) {
                    floor = Math.max(0, floor - raisedAhead(way));
                }
                floor = behindTub(way, floor);
                floors[way] = floor;
            }
        }

        /** A tub wants 0 ahead of it, and gives 0: what wants more behind it is never met. */
        private int behindTub(int way, int floor) {
            if (!tubs[way]) {
                return floor;
            }
            return floor > 0 ? Ground.NEVER : 0;
        }

        /** The first bores, as digits, from a way on by which all holds; -1: none. */
        private static int firstBores(Search search, int way, int ahead, int digits) {
            if (way > MOST_SEARCHED || ahead < search.floors[way]) {
                return -1;
            }
            if (way >= search.ways) {
                return digits;
            }
            int pressure = (search.tubs[way] ? 0 : ahead) + search.raisedAhead(way);
            int hose = search.lengths[way] * search.lines(way);
            int first = -1;
            for (int bore = 0; bore < BORES && first < 0; bore++) {
                if (hose <= search.left[bore]) {
                    search.left[bore] -= hose;
                    first = firstBores(search, way + 1, pressure - search.drop(way, bore), digits * 10 + bore);
                    search.left[bore] += hose;
                }
            }
            return first;
        }
    }

    /** Loads, and the hands that carry them. */
    private static final class Hands {
        static final int MOST_LOADS = 8, MOST_HANDS = 4;
        /** More than eight loads of 99 minutes take. */
        static final int TOO_LONG = 1000;
        final int[] loads = new int[MOST_LOADS];
        final int[] carried = new int[MOST_HANDS];
        int count;
        int least;
        int by;

        int add(int minutes) {
            if (count >= MOST_LOADS) {
                return FULL;
            }
            loads[count] = minutes;
            count++;
            return count;
        }

        void carry(int k) {
            least = TOO_LONG;
            by = 0;
            give(this, k, 0, 0, 0);
        }

        /** Gives the loads from one on; a hand that has none yet is like any other, so the next one takes. */
        private static void give(Hands hands, int k, int load, int used, int digits) {
            if (load >= hands.count || load >= MOST_LOADS) {
                hands.keepLeast(digits);
                return;
            }
            int minutes = hands.loads[load];
            for (int hand = 0; hand < k && hand <= used && hand < MOST_HANDS; hand++) {
                if (hands.carried[hand] + minutes < hands.least) {
                    hands.carried[hand] += minutes;
                    give(hands, k, load + 1, Math.max(used, hand + 1), digits * 10 + hand);
                    hands.carried[hand] -= minutes;
                }
            }
        }

        private void keepLeast(int digits) {
            int longest = 0;
            for (int hand = 0; hand < carried.length; hand++) {
                longest = Math.max(longest, carried[hand]);
            }
            if (longest < least) {
                least = longest;
                by = digits;
            }
        }
    }

    /** Things for the cart, and those that should be on it. */
    private static final class Cart {
        static final int MOST_THINGS = 9;
        final int[] weights = new int[MOST_THINGS];
        final int[] worths = new int[MOST_THINGS];
        final int[] hoped = new int[MOST_THINGS];
        int count;
        int sum;
        int set;
        int weight;

        int add(int heavy, int atFires) {
            if (count >= MOST_THINGS) {
                return FULL;
            }
            weights[count] = heavy;
            worths[count] = atFires;
            count++;
            return count;
        }

        void pack(int most, int chances) {
            for (int i = 0; i < count; i++) {
                hoped[i] = chances / 10201 * (worths[i] / 10000)
                        + chances / 101 % 101 * (worths[i] / 100 % 100)
                        + chances % 101 * (worths[i] % 100);
            }
            sum = 0;
            set = 0;
            weight = 0;
            for (int bits = 1; bits < 1 << count; bits++) {
                weighSet(bits, most);
            }
        }

        /** Sets come with their bits rising: of like ones the first stays. */
        private void weighSet(int bits, int most) {
            int heavy = 0;
            int hopes = 0;
            for (int i = 0; i < count; i++) {
                if ((bits >> i & 1) == 1) {
                    heavy += weights[i];
                    hopes += hoped[i];
                }
            }
            if (heavy <= most && (hopes > sum || hopes == sum && heavy < weight)) {
                sum = hopes;
                set = bits;
                weight = heavy;
            }
        }
    }

    /** Acts of layings: which body runs is found by kind, from its own upward. */
    private static final class Acts {
        static final int LIFTS = 0, LOSES = 1, BEARS = 2, TELLS = 3, ACTS = 4;
        static final int MOST_TRACED = 24, MOST_DEEP = 40;
        /** By kind, then by act; 0: the kind has none of its own. */
        static final int[] BODIES = {
            1, 10, 11, 2,
            0, 0, 20, 0,
            0, 30, 0, 0,
            40, 0, 41, 0,
            0, 51, 0, 50,
            0, 0, 60, 0,
        };
        final int[] traced = new int[MOST_TRACED];
        int ran;
        int n;
        int c;
        int own;

        int lead(Laying laying, int act, int x) {
            ran = 0;
            n = laying.number;
            c = laying.parts;
            own = laying.kind;
            return run(this, own, act, x, 0);
        }

        int bodyAt(int i) {
            return i >= 0 && i < ran && i < MOST_TRACED ? traced[i] : BAD;
        }

        private void begins(int body) {
            if (ran < MOST_TRACED) {
                traced[ran] = body;
            }
            ran++;
        }

        /** The kind from this one upward that has a body for the act. */
        private static int kindWith(int kind, int act) {
            int at = kind;
            for (int step = 0; step < KINDS && at > 0 && BODIES[at * ACTS + act] == 0; step++) {
                at = KIND_ABOVE[at];
            }
            return Math.max(0, at);
        }

        private static int run(Acts acts, int kind, int act, int x, int deep) {
            if (deep > MOST_DEEP) {
                return 0;
            }
            int at = kindWith(kind, act);
            int body = BODIES[at * ACTS + act];
            int own = acts.own;
            int above = KIND_ABOVE[at];
            int next = deep + 1;
            acts.begins(body);
            switch (body) {
                case 1:
                    return x + acts.n;
                case 2:
                    return run(acts, own, LOSES, x, next) - run(acts, own, BEARS, 1, next);
                case 10:
                    return run(acts, own, LIFTS, x, next) * 2;
                case 11:
                    return x ^ acts.n;
                case 20:
                    return run(acts, above, BEARS, x, next) + acts.c;
                case 30:
                    return -run(acts, above, LOSES, x, next);
                case 40:
                    return run(acts, above, LIFTS, x, next) * 3;
                case 41:
                    return run(acts, above, BEARS, x + 1, next);
                case 50:
                    return run(acts, above, TELLS, x, next) ^ 5;
                case 51:
                    return run(acts, above, LOSES, x, next) + run(acts, own, BEARS, 2, next);
                case 60:
                    return run(acts, above, BEARS, x, next) - run(acts, own, LIFTS, 1, next);
                default:
                    return 0;
            }
        }
    }

    /** A shelf: nothing, a laying, or a row, whose elements are kept as longs. */
    private static final class Shelf {
        static final int NOTHING = 0, A_LAYING = 1, A_ROW = 2;
        static final int BYTES = 0, SHORTS = 1, INTS = 2, BOOLEANS = 4;
        final long[] elements = new long[MOST_ELEMENTS];
        int holds;
        Laying laying;
        int sort;
        int length;

        void holdRow(int ofSort, int n) {
            holds = A_ROW;
            laying = null;
            sort = ofSort;
            length = Math.max(0, Math.min(n, MOST_ELEMENTS));
            for (int i = 0; i < length; i++) {
                elements[i] = 0;
            }
        }

        /** Why n elements from i on are not to be had; 0: they are. */
        int refusal(int i, int n) {
            if (holds == NOTHING) {
                return NOTHING_THERE;
            }
            if (holds != A_ROW) {
                return OTHER_KIND;
            }
            return i < 0 || n < 0 || i > length || n > length - i ? NO_PLACE : 0;
        }

        long lowest(long v) {
            switch (sort) {
                case BYTES:
                    return (byte) v;
                case SHORTS:
                    return (short) v;
                case INTS:
                    return (int) v;
                case BOOLEANS:
                    return v != 0 ? 1 : 0;
                default:
                    return v;
            }
        }
    }
}
