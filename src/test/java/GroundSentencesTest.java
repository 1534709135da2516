/**
 * The first part of the document's terms, and promises 1 to 10: each sentence that names a
 * boundary case has a test of its own, with the sentence's words at its head.
 */
public final class GroundSentencesTest {
    private static final Due D = new Due();
    private static final int BAD = OverHill.BAD, NOT = OverHill.NOT, FULL = OverHill.FULL;
    private static final int MIN = Integer.MIN_VALUE, MAX = Integer.MAX_VALUE;

    public static void main(String[] args) {
        noPointsNoEngines();
        points();
        heights();
        heightBecomes();
        ways();
        fromAPointToAnotherOne();
        lengths();
        bores();
        mostTheyBear();
        store();
        age();
        engines();
        fuel();
        speed();
        flows();
        tapeOf120();
        fedBytes();
        lowestFirst();
        digitOfABore();
        digitOfAnEngine();
        colon();
        howManyNumbers();
        howManyDigits();
        partedByCommas();
        noneLess();
        noneGreater();
        firstDigitOfWhatMayNotBe();
        fourteenthComma();
        endsTooEarly();
        tapeIsEmptyThen();
        tableAnswers();
        numbersStandAtFifties();
        straightBetween();
        behindTheLast();
        withoutATable();
        whatALengthLoses();
        tableTakesTheOldOnesPlace();
        D.end();
    }

    private static void noPointsNoEngines() {
        D.sentence("A new object: No points, no engines");
        OverHill x = new OverHill();
        D.due("count(0)", x.count(0), 0);
        D.due("count(2)", x.count(2), 0);
        D.due("height(0, 1)", x.height(0, 1), BAD);
        D.due("lifts(0, 0)", x.lifts(0, 0), BAD);
        D.due("laying(0, 0)", x.laying(0, 0), BAD);
        D.due("soon(0, 0, 0)", x.soon(0, 0, 0), BAD);
        D.due("turn(1, 0)", x.turn(1, 0), BAD);
    }

    private static void points() {
        D.sentence("POINTS 0 .. 11, as they come: its number. FULL");
        OverHill x = new OverHill();
        for (int i = 0; i < 12; i++) {
            D.due("point " + i, x.point(i), i);
            D.due("points", x.count(0), i + 1);
        }
        D.due("a thirteenth", x.point(5), FULL);
        D.due("a fourteenth", x.point(5), FULL);
        D.due("points", x.count(0), 12);
        D.due("point 11 is there", x.height(11, 11), 11);
        D.due("point 12 is not", x.height(12, 5), BAD);
    }

    private static void heights() {
        D.sentence("a HEIGHT (0 .. 999 feet)");
        OverHill x = new OverHill();
        D.each("point", new int[] {-1, 1000, MIN, MAX}, v -> x.point(v), BAD);
        D.due("none came", x.count(0), 0);
        D.due("point(0)", x.point(0), 0);
        D.due("point(999)", x.point(999), 1);
        D.due("it is 0", x.height(0, 0), 0);
        D.due("it is 999", x.height(1, 999), 999);
    }

    private static void heightBecomes() {
        D.sentence("HEIGHT of a POINT becomes v: what it was. BAD");
        OverHill x = Made.points(7, 8);
        D.each("height(point, 5)", new int[] {-1, 2, 11, 12, MIN, MAX}, p -> x.height(p, 5), BAD);
        D.each("height(1, v)", new int[] {-1, 1000, MIN, MAX}, v -> x.height(1, v), BAD);
        D.due("it was 8 still", x.height(1, 999), 8);
        D.due("it was 999", x.height(1, 0), 999);
        D.due("it was 0", x.height(1, 0), 0);
        D.due("the other one stays", x.height(0, 7), 7);
    }

    private static void ways() {
        D.sentence("WAYS 0 .. 19, as they come: its number. FULL");
        OverHill x = Made.points(0, 0);
        for (int i = 0; i < 20; i++) {
            D.due("way " + i, x.way(0, 1, 1), i);
            D.due("ways", x.count(1), i + 1);
        }
        D.due("a twenty-first", x.way(0, 1, 1), FULL);
        D.due("ways", x.count(1), 20);
        int l = x.laying(0, 0);
        D.due("way 19 is there", x.part(l, 1, 19, 0), 1);
        D.due("way 20 is not", x.part(l, 1, 20, 0), BAD);
    }

    private static void fromAPointToAnotherOne() {
        D.sentence("from a POINT to another one. BAD (from one to itself)");
        OverHill x = Made.points(0, 0, 0);
        for (int point = 0; point < 3; point++) {
            D.due("way from and to " + point, x.way(point, point, 1), BAD);
        }
        D.each("way from", new int[] {-1, 3, 11, MIN, MAX}, p -> x.way(p, 0, 1), BAD);
        D.each("way to", new int[] {-1, 3, 11, MIN, MAX}, p -> x.way(0, p, 1), BAD);
        D.due("none came", x.count(1), 0);
        D.due("to a lower number", x.way(2, 0, 1), 0);
        D.due("to a higher number", x.way(0, 2, 1), 1);
        D.due("the same two once more", x.way(0, 2, 1), 2);
    }

    private static void lengths() {
        D.sentence("so many LENGTHS (1 .. 30) long");
        OverHill x = Made.points(0, 0);
        D.each("way of lengths", new int[] {0, -1, 31, MIN, MAX}, v -> x.way(0, 1, v), BAD);
        D.due("none came", x.count(1), 0);
        D.due("of 1", x.way(0, 1, 1), 0);
        D.due("of 30", x.way(0, 1, 30), 1);
        D.due("hose of 1", x.of(Made.lay(x, 0, 0, 1, 0, 0), 3), 1);
        D.due("hose of 30", x.of(Made.lay(x, 0, 0, 1, 1, 0), 3), 30);
    }

    private static void bores() {
        D.sentence("BORES 0 .. 2; Of a BORE: MOST (what 0), STORE (1), AGE (2) becomes v: what it was. BAD");
        OverHill x = new OverHill();
        for (int what = 0; what < 3; what++) {
            int of = what;
            D.each("bore(b, " + what + ", 1)", new int[] {-1, 3, MIN, MAX}, b -> x.bore(b, of, 1), BAD);
            for (int bore = 0; bore < 3; bore++) {
                x.bore(bore, what, 10 * what + bore);
            }
        }
        D.each("bore(0, what, 1)", new int[] {-1, 3, MIN, MAX}, w -> x.bore(0, w, 1), BAD);
        for (int what = 0; what < 3; what++) {
            for (int bore = 0; bore < 3; bore++) {
                D.due("what " + what + " of bore " + bore, x.bore(bore, what, 50), 10 * what + bore);
                D.due("what " + what + " of bore " + bore + " then", x.bore(bore, what, 51), 50);
            }
        }
    }

    private static void mostTheyBear() {
        D.sentence("MOST they bear (0 .. 99999 hundredths of a pound; 20000 at first)");
        for (int bore = 0; bore < 3; bore++) {
            OverHill x = Made.row(1);
            int b = bore;
            D.each("most of bore " + b, new int[] {-1, 100000, MIN, MAX}, v -> x.bore(b, 0, v), BAD);
            Made.engines(x, 20000);
            int l = Made.lay(x, 0, 0, 0, 0, 0, 1, 0, b);
            D.due("20000 at first", x.judge(l, 0, 0), NOT);
            Made.table(x, "e0:20001");
            D.due("20000 at first, no more", x.judge(l, 0, 0), 1);
            D.due("it was 20000", x.bore(b, 0, 99999), 20000);
            Made.table(x, "e0:99999");
            D.due("99999 is borne", x.judge(l, 0, 0), NOT);
            D.due("it was 99999", x.bore(b, 0, 0), 99999);
            Made.table(x, "e0:1");
            D.due("0 bears no 1", x.judge(l, 0, 0), 1);
            Made.table(x, "e0:0");
            D.due("0 bears 0", x.judge(l, 0, 0), NOT);
            D.due("it was 0", x.bore(b, 0, 0), 0);
        }
    }

    private static void store() {
        D.sentence("STORE: how many LENGTHS there are (0 .. 99; 30 at first)");
        for (int bore = 0; bore < 3; bore++) {
            OverHill x = Made.row(15, 15, 1);
            int b = bore;
            D.each("store of bore " + b, new int[] {-1, 100, MIN, MAX}, v -> x.bore(b, 1, v), BAD);
            x.bore((b + 1) % 3, 1, 0);
            x.bore((b + 2) % 3, 1, 0);
            int l = Made.lay(x, 0, 0, 1, 0, b, 1, 1, b);
            D.due("30 at first are enough for 30", x.most(l, 0, 0), 600);
            D.due("each by bore " + b, x.most(l, 0, 1), 11 * b);
            x.part(l, 1, 2, b);
            D.due("30 at first are too few for 31", x.most(l, 0, 0), NOT);
            D.due("it was 30", x.bore(b, 1, 99), 30);
            D.due("99 are enough", x.most(l, 0, 0), 600);
            D.due("it was 99", x.bore(b, 1, 0), 99);
            D.due("0 are too few", x.most(l, 0, 0), NOT);
            D.due("it was 0", x.bore(b, 1, 0), 0);
        }
    }

    private static void age() {
        D.sentence("AGE (0 .. 99 hundredths more that is lost; 0 at first)");
        OverHill x = new OverHill();
        for (int bore = 0; bore < 3; bore++) {
            int b = bore;
            Made.table(x, "b" + b + ":100");
            D.each("age of bore " + b, new int[] {-1, 100, MIN, MAX}, v -> x.bore(b, 2, v), BAD);
            D.due("0 at first", x.loses(b, 0), 100);
            D.due("it was 0", x.bore(b, 2, 99), 0);
            D.due("99 hundredths more", x.loses(b, 0), 199);
            D.due("it was 99", x.bore(b, 2, 1), 99);
            D.due("1 hundredth more", x.loses(b, 0), 101);
            D.due("it was 1", x.bore(b, 2, 0), 1);
            D.due("none more", x.loses(b, 0), 100);
        }
    }

    private static void engines() {
        D.sentence("ENGINES 0 .. 5, as they come: its number. FULL");
        OverHill x = new OverHill();
        for (int i = 0; i < 6; i++) {
            D.due("engine " + i + " is not there yet", x.lifts(i, 0), BAD);
            D.due("engine " + i, x.engine(10 * i, 1), i);
            D.due("engines", x.count(2), i + 1);
        }
        D.due("a seventh", x.engine(1, 1), FULL);
        D.due("engines", x.count(2), 6);
        D.due("engine 5 is there", x.lifts(5, 0), 10000);
        D.due("engine 6 is not", x.lifts(6, 0), BAD);
        D.due("engine 5 has its own fuel", x.turn(32, 0), 50);
    }

    private static void fuel() {
        D.sentence("FUEL (minutes that it has, 0 .. 999)");
        OverHill x = Made.points(0);
        D.each("engine of fuel", new int[] {-1, 1000, MIN, MAX}, v -> x.engine(v, 1), BAD);
        D.due("none came", x.count(2), 0);
        D.due("of 0", x.engine(0, 1), 0);
        D.due("of 999", x.engine(999, 1), 1);
        D.due("0 minutes", x.turn(1, 0), 0);
        D.due("999 minutes", x.turn(2, 0), 999);
        D.due("a laying lasts 0", x.lasts(Made.lay(x, 0, 0, 0, 0, 0)), 0);
    }

    private static void speed() {
        D.sentence("SPEED (LENGTHS of way a minute, 1 .. 9)");
        OverHill x = Made.row(30);
        D.each("engine of speed", new int[] {0, -1, 10, MIN, MAX}, v -> x.engine(0, v), BAD);
        D.due("none came", x.count(2), 0);
        D.due("of 1", x.engine(0, 1), 0);
        D.due("of 9", x.engine(0, 9), 1);
        D.due("30 lengths by 1", x.soon(0, 0, 1), 30);
        D.due("30 lengths by 9", x.soon(1, 0, 1), 4);
    }

    private static void flows() {
        D.sentence("FLOW: 0 .. 600 whole gallons a minute");
        OverHill x = Made.row(1);
        Made.losesFlow(x, 0);
        x.engine(1, 1);
        int l = Made.lay(x, 0, 0, 0, 0, 0, 1, 0, 0);
        int[] none = {-1, 601, MIN, MAX};
        D.each("loses(0, f)", none, f -> x.loses(0, f), BAD);
        D.each("lifts(0, f)", none, f -> x.lifts(0, f), BAD);
        D.each("pressure(l, 0, f)", none, f -> x.pressure(l, 0, f), OverHill.VOID);
        D.each("judge(l, f, 0)", none, f -> x.judge(l, f, 0), BAD);
        D.due("loses(0, 0)", x.loses(0, 0), 0);
        D.due("loses(0, 600)", x.loses(0, 600), 600);
        D.due("lifts(0, 0)", x.lifts(0, 0), 10000);
        D.due("lifts(0, 600)", x.lifts(0, 600), 4000);
        D.due("pressure(l, 1, 0)", x.pressure(l, 1, 0), 10000);
        D.due("pressure(l, 1, 600)", x.pressure(l, 1, 600), 3400);
        D.due("judge(l, 0, 10000)", x.judge(l, 0, 10000), NOT);
        D.due("judge(l, 600, 3400)", x.judge(l, 600, 3400), NOT);
        D.due("judge(l, 600, 3401)", x.judge(l, 600, 3401), 100);
    }

    private static void tapeOf120() {
        D.sentence("THE TAPE (at most 120 bytes); FULL");
        for (int n = 1; n <= 4; n++) {
            OverHill x = new OverHill();
            for (int i = 1; i <= 120 / n; i++) {
                D.due("feed by " + n, x.feed(n, 0), i * n);
            }
            D.due("120 bytes", x.count(4), 120);
            for (int more = 1; more <= 4; more++) {
                D.due("feed(" + more + ", 0) of a full one", x.feed(more, 0), FULL);
            }
            D.due("120 bytes still", x.count(4), 120);
        }
        OverHill y = new OverHill();
        for (int i = 0; i < 117; i++) {
            y.feed(1, 0);
        }
        D.due("4 where 3 go", y.feed(4, 0), FULL);
        D.due("none of the 4 came", y.count(4), 117);
        D.due("3 where 3 go", y.feed(3, 0), 120);
        OverHill z = new OverHill();
        Made.table(z, "b0:00000,00000,00000,00000,00000,00000,00000,00000,00000,00000,00000,00000,00001");
        D.due("the longest text goes on it", z.loses(0, 600), 1);
    }

    private static void fedBytes() {
        D.sentence("n (1 .. 4) bytes come to THE TAPE: how many it has. BAD");
        OverHill x = new OverHill();
        D.each("feed(n, 98)", new int[] {0, -1, 5, MIN, MAX}, n -> x.feed(n, 98), BAD);
        D.due("none came", x.count(4), 0);
        int has = 0;
        for (int n = 1; n <= 4; n++) {
            has += n;
            D.due("feed(" + n + ", -1)", x.feed(n, -1), has);
        }
        D.due("10 bytes", x.count(4), 10);
    }

    private static void lowestFirst() {
        D.sentence("the lowest of v first");
        OverHill x = new OverHill();
        x.feed(4, 'b' | '1' << 8 | ':' << 16 | '3' << 24);
        D.due("by four", x.table(), 1);
        D.due("b1:3", x.loses(1, 0), 3);
        x.feed(3, 'b' | '1' << 8 | ':' << 16 | 255 << 24);
        x.feed(1, '4' | -256);
        D.due("by three and one, what is above left out", x.table(), 1);
        D.due("b1:4", x.loses(1, 0), 4);
        x.feed(2, 'b' | '1' << 8 | '9' << 16);
        x.feed(2, ':' | '5' << 8 | '9' << 16);
        D.due("by two and two, what is above left out", x.table(), 1);
        D.due("b1:5", x.loses(1, 0), 5);
        x.feed(4, 'b' | '1' << 8 | ':' << 16 | 0xB8 << 24);
        D.due("a byte above 127 is no digit", x.table(), -103);
    }

    private static void digitOfABore() {
        D.sentence("b DIGIT: what a LENGTH of a BORE loses (0 .. 2)");
        OverHill x = new OverHill();
        for (int bore = 0; bore < 3; bore++) {
            D.due("b" + bore, Due.table(x, "b" + bore + ":" + (bore + 4)), 1);
        }
        for (int bore = 0; bore < 3; bore++) {
            D.due("loses " + bore, x.loses(bore, 0), bore + 4);
        }
        String[] none = {"b3:1", "b9:1", "b/:1", "b::1", "bb:1", "b:1", "b 0:1", "b-1:1"};
        for (String text : none) {
            D.due(text, Due.table(x, text), -101);
        }
        D.due("00: the second digit is the fault", Due.table(x, "b00:1"), -102);
    }

    private static void digitOfAnEngine() {
        D.sentence("e DIGIT: what an ENGINE lifts; one that there is");
        OverHill x = new OverHill();
        for (int engine = 0; engine < 6; engine++) {
            D.due("e" + engine + " is not there yet", Due.table(x, "e" + engine + ":5"), -101);
            x.engine(1, 1);
            D.due("e" + engine, Due.table(x, "e" + engine + ":" + (engine + 4)), 1);
        }
        for (int engine = 0; engine < 6; engine++) {
            D.due("lifts " + engine, x.lifts(engine, 0), engine + 4);
        }
        String[] none = {"e6:1", "e9:1", "e/:1", "e::1", "ee:1"};
        for (String text : none) {
            D.due(text, Due.table(x, text), -101);
        }
    }

    private static void colon() {
        D.sentence("b DIGIT : NUMBERS, e DIGIT : NUMBERS; FAULT: the first byte with which no text goes on");
        OverHill x = new OverHill();
        x.engine(1, 1);
        String[] texts = {"a0:1", "c0:1", "d0:1", "f0:1", "B0:1", "E0:1", " b0:1", "0b:1", ":b0:1", "b0;1", "b01", "b0,1",
            "e0 1", "b0 :1", "b0: 1", "b0:-1", "b0:+1", "b0::1", "b0:b", "b0:/", "e0:,", "b0:1:", "b0:1b", "b0:1/",
            "b0:1 ", "b0:12;3", "b0:1,,2", "b0:1, 2", "b0:1,:", "b0:1,/", "b0:1,2,x"};
        int[] faults = {0, 0, 0, 0, 0, 0, 0, 0, 0, 2, 2, 2, 2, 2, 3, 3, 3, 3, 3, 3, 3, 4, 4, 4, 4, 5, 5, 5, 5, 5, 7};
        for (int i = 0; i < texts.length; i++) {
            D.due("'" + texts[i] + "'", Due.table(x, texts[i]), -100 - faults[i]);
        }
    }

    private static String numbers(String head, int n, int v) {
        StringBuilder text = new StringBuilder(head).append(v);
        for (int i = 1; i < n; i++) {
            text.append(',').append(v);
        }
        return text.toString();
    }

    private static void howManyNumbers() {
        D.sentence("1 to 13 numbers; how many numbers");
        OverHill x = new OverHill();
        x.engine(1, 1);
        D.due("none", Due.table(x, "b0:"), -103);
        for (int n = 1; n <= 13; n++) {
            D.due(n + " of b", Due.table(x, numbers("b0:", n, 7)), n);
            D.due(n + " of e", Due.table(x, numbers("e0:", n, 7)), n);
        }
        D.due("14 of b", Due.table(x, numbers("b0:", 14, 7)), -128);
        D.due("14 of e", Due.table(x, numbers("e0:", 14, 7)), -128);
    }

    private static void howManyDigits() {
        D.sentence("1 to 5 digits");
        OverHill x = new OverHill();
        String[] texts = {"b0:1", "b0:12", "b0:123", "b0:1234", "b0:12345", "b0:99999", "b0:00000", "b0:00009"};
        int[] numbers = {1, 12, 123, 1234, 12345, 99999, 0, 9};
        for (int i = 0; i < texts.length; i++) {
            D.due(texts[i], Due.table(x, texts[i]), 1);
            D.due(texts[i] + " loses", x.loses(0, 0), numbers[i]);
        }
        D.due("six", Due.table(x, "b0:123456"), -108);
        D.due("six, the first ones 0", Due.table(x, "b0:000001"), -108);
        D.due("none", Due.table(x, "b0:,1"), -103);
        D.due("none behind a comma", Due.table(x, "b0:1,,"), -105);
        D.due("what came ahead of the faults stays", x.loses(0, 0), 9);
    }

    private static void partedByCommas() {
        D.sentence("parted by ,");
        OverHill x = new OverHill();
        D.due("a comma", Due.table(x, "b0:1,2"), 2);
        String signs = ";.+- :/be\n\u0000\u00ff\u00ac";
        for (int i = 0; i < signs.length(); i++) {
            D.due("sign " + (int) signs.charAt(i), Due.table(x, "b0:1" + signs.charAt(i) + "2"), -104);
        }
        D.due("none ahead of the first", Due.table(x, "b0:,1"), -103);
        D.due("none behind the last", Due.table(x, "b0:1,"), -105);
    }

    private static void noneLess() {
        D.sentence("of b none less than the one ahead");
        OverHill x = new OverHill();
        D.due("one less", Due.table(x, "b0:5,4"), -105);
        D.due("the same", Due.table(x, "b0:5,5"), 2);
        D.due("one more", Due.table(x, "b0:5,6"), 2);
        D.due("0 and 0", Due.table(x, "b0:0,0"), 2);
        D.due("numbers, not texts", Due.table(x, "b0:9,10"), 2);
        D.due("less than the one ahead, not than the first", Due.table(x, "b0:5,9,7"), -107);
        D.due("the greatest twice", Due.table(x, "b0:99999,99999"), 2);
        D.due("one less than the greatest", Due.table(x, "b0:99999,99998"), -109);
        D.due("the last of 13", Due.table(x, "b0:1,1,1,1,1,1,1,1,1,1,1,1,0"), -127);
    }

    private static void noneGreater() {
        D.sentence("of e none greater");
        OverHill x = new OverHill();
        x.engine(1, 1);
        D.due("one greater", Due.table(x, "e0:5,6"), -105);
        D.due("the same", Due.table(x, "e0:5,5"), 2);
        D.due("one less", Due.table(x, "e0:5,4"), 2);
        D.due("0 and 0", Due.table(x, "e0:0,0"), 2);
        D.due("numbers, not texts", Due.table(x, "e0:10,9"), 2);
        D.due("greater than the one ahead, not than the first", Due.table(x, "e0:9,5,7"), -107);
        D.due("the greatest twice", Due.table(x, "e0:99999,99999"), 2);
        D.due("one greater, up to the greatest", Due.table(x, "e0:99998,99999"), -109);
        D.due("the last of 13", Due.table(x, "e0:1,1,1,1,1,1,1,1,1,1,1,1,2"), -127);
    }

    private static void firstDigitOfWhatMayNotBe() {
        D.sentence("a number that may not be: its first digit");
        OverHill x = new OverHill();
        x.engine(1, 1);
        String[] texts = {"b0:50,49", "b0:500,499,", "b0:500,12", "e0:50,51", "e0:500,50123", "b0:1,22,3", "b0:70,0069"};
        int[] faults = {6, 7, 7, 6, 7, 8, 6};
        for (int i = 0; i < texts.length; i++) {
            D.due(texts[i], Due.table(x, texts[i]), -100 - faults[i]);
        }
    }

    private static void fourteenthComma() {
        D.sentence("a fourteenth one: its comma");
        OverHill x = new OverHill();
        x.engine(1, 1);
        D.due("the comma alone", Due.table(x, numbers("b0:", 13, 7) + ","), -128);
        D.due("a comma and what is none", Due.table(x, numbers("b0:", 13, 7) + ",x"), -128);
        D.due("one that may not be", Due.table(x, numbers("b0:", 13, 7) + ",6"), -128);
        D.due("with two digits each", Due.table(x, numbers("e0:", 14, 77)), -141);
        D.due("no comma: the byte itself", Due.table(x, numbers("b0:", 13, 7) + ";"), -128);
    }

    private static void endsTooEarly() {
        D.sentence("the length, if it ends too early");
        OverHill x = new OverHill();
        x.engine(1, 1);
        String[] texts = {"", "b", "e", "b0", "e0", "b0:", "e0:", "b0:1,", "e0:1,", "b2:1,22,", "b0:0,0,0,0,0,0,0,0,0,0,0,0,"};
        for (String text : texts) {
            D.due("'" + text + "'", Due.table(x, text), -100 - text.length());
        }
    }

    private static void tapeIsEmptyThen() {
        D.sentence("THE TAPE is empty then; A FAULT empties THE TAPE");
        OverHill x = new OverHill();
        Due.feed(x, "b0:12");
        D.due("5 bytes", x.count(4), 5);
        D.due("a table", x.table(), 1);
        D.due("it is empty", x.count(4), 0);
        D.due("nothing is told twice", x.table(), -100);
        Due.feed(x, "b0:12x");
        D.due("a fault", x.table(), -105);
        D.due("it is empty", x.count(4), 0);
        D.due("what comes now is at its head", Due.table(x, "b0:13"), 1);
        Due.feed(x, "b0:9");
        D.due("what came earlier is not behind it", x.table(), 1);
        D.due("b0:9", x.loses(0, 600), 9);
    }

    private static void tableAnswers() {
        D.sentence("-100 less its FAULT; what is answered so changes nothing");
        OverHill x = new OverHill();
        x.engine(1, 1);
        Made.table(x, "b0:3,5");
        Made.table(x, "e0:50,30");
        String[] faults = {"b0:7,6", "b0:7,8,", "b0:1,2,3x", "e0:70,71", "e0:70,60,", "e0:1,1x"};
        for (String text : faults) {
            D.holds(text + " is a fault", Due.table(x, text) <= -100);
            D.due("the table of b0 stays", x.loses(0, 0), 3);
            D.due("the table of b0 stays", x.loses(0, 100), 5);
            D.due("the table of e0 stays", x.lifts(0, 0), 50);
            D.due("the table of e0 stays", x.lifts(0, 100), 30);
        }
    }

    private static void numbersStandAtFifties() {
        D.sentence("in hundredths of a pound, at FLOWS 0, 50, 100, ..");
        OverHill x = new OverHill();
        x.engine(1, 1);
        Made.table(x, "b0:1,20,300,4000,4001,4002,4003,4004,4005,4006,4007,4008,50000");
        Made.table(x, "e0:50000,4008,4007,4006,4005,4004,4003,4002,4001,4000,300,20,1");
        int[] b = {1, 20, 300, 4000, 4001, 4002, 4003, 4004, 4005, 4006, 4007, 4008, 50000};
        for (int i = 0; i < 13; i++) {
            D.due("b at " + 50 * i, x.loses(0, 50 * i), b[i]);
            D.due("e at " + 50 * i, x.lifts(0, 50 * i), b[12 - i]);
        }
    }

    private static void straightBetween() {
        D.sentence("Between two FLOWS what lies straight between: (v (50 - r) + w r) / 50 (cut), r FLOW % 50");
        OverHill x = new OverHill();
        x.engine(1, 1);
        Made.table(x, "b0:0,1,3");
        int[] b = {0, 0, 1, 0, 25, 0, 49, 0, 50, 1, 51, 1, 74, 1, 75, 2, 99, 2, 100, 3};
        for (int i = 0; i < b.length; i += 2) {
            D.due("b at " + b[i], x.loses(0, b[i]), b[i + 1]);
        }
        Made.table(x, "e0:3,1,0");
        int[] e = {0, 3, 1, 2, 24, 2, 25, 2, 26, 1, 49, 1, 50, 1, 51, 0, 99, 0, 100, 0};
        for (int i = 0; i < e.length; i += 2) {
            D.due("e at " + e[i], x.lifts(0, e[i]), e[i + 1]);
        }
        Made.table(x, "b1:0,99999");
        D.due("1 of 50 parts", x.loses(1, 1), 1999);
        D.due("49 of 50 parts", x.loses(1, 49), 97999);
    }

    private static void behindTheLast() {
        D.sentence("behind the last one as the last one");
        OverHill x = new OverHill();
        x.engine(1, 1);
        for (int n = 1; n <= 13; n++) {
            StringBuilder rises = new StringBuilder("b0:0");
            StringBuilder falls = new StringBuilder("e0:1000");
            for (int i = 1; i < n; i++) {
                rises.append(',').append(50 * i);
                falls.append(',').append(1000 - 50 * i);
            }
            Made.table(x, rises.toString());
            Made.table(x, falls.toString());
            int last = 50 * (n - 1);
            int[] flows = {last, Math.min(600, last + 1), Math.min(600, last + 49), Math.min(600, last + 50), 600};
            for (int flow : flows) {
                D.due(n + " numbers, b at " + flow, x.loses(0, flow), last);
                D.due(n + " numbers, e at " + flow, x.lifts(0, flow), 1000 - last);
            }
            if (n > 1) {
                D.due(n + " numbers, b ahead of the last", x.loses(0, last - 1), last - 1);
                D.due(n + " numbers, e ahead of the last", x.lifts(0, last - 1), 1000 - last + 1);
            }
        }
    }

    private static void withoutATable() {
        D.sentence("Without a TABLE: b: FLOW / 10 (cut), e: 10000 less 10 times FLOW, 0 at least");
        OverHill x = new OverHill();
        x.engine(1, 1);
        x.engine(1, 1);
        Made.table(x, "b1:5");
        Made.table(x, "e1:5");
        for (int flow = 0; flow <= 600; flow++) {
            D.due("b at " + flow, x.loses(0, flow), flow / 10);
            D.due("e at " + flow, x.lifts(0, flow), 10000 - 10 * flow);
        }
        D.due("b without one beside b with one", x.loses(2, 599), 59);
    }

    private static void whatALengthLoses() {
        D.sentence("What a LENGTH loses: (TABLE) (100 + AGE) / 100 (cut)");
        OverHill x = new OverHill();
        Made.table(x, "b0:1");
        x.bore(0, 2, 99);
        D.due("1 and 99 hundredths", x.loses(0, 0), 1);
        Made.table(x, "b0:2");
        D.due("2 and 99 hundredths", x.loses(0, 0), 3);
        Made.table(x, "b0:99999");
        D.due("the most of the oldest", x.loses(0, 0), 198998);
        Made.table(x, "b0:0");
        D.due("nothing of the oldest", x.loses(0, 0), 0);
        Made.table(x, "b0:0,3");
        D.due("cut between, then cut by age", x.loses(0, 49), 3);
        x.bore(1, 2, 99);
        D.due("without a table too", x.loses(1, 600), 119);
        D.due("cut ahead of the age", x.loses(1, 19), 1);
        D.due("another bore is as it was", x.loses(2, 600), 60);
    }

    private static void tableTakesTheOldOnesPlace() {
        D.sentence("THE TAPE becomes a TABLE");
        OverHill x = new OverHill();
        x.engine(1, 1);
        Made.table(x, "b0:0,100,200");
        Made.table(x, "b0:7");
        D.due("of a shorter one nothing older is left", x.loses(0, 100), 7);
        Made.table(x, "e0:9,8,7,6");
        Made.table(x, "e0:5,4");
        D.due("of a shorter one nothing older is left", x.lifts(0, 150), 4);
        D.due("b1 has none", x.loses(1, 100), 10);
    }
}
