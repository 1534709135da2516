/** Promises 7 to 10: the tape, tables, what a length loses, what an engine lifts. */
public final class TapeTest {
    private static final Due D = new Due();

    public static void main(String[] args) {
        promise7();
        promise8();
        faultsOfNumbers();
        faultsEmptyTheTape();
        promise9();
        promise10();
        D.end();
    }

    private static void promise7() {
        OverHill x = new OverHill();
        D.due("feed(0, 98)", x.feed(0, 98), OverHill.BAD);
        D.due("feed(5, 98)", x.feed(5, 98), OverHill.BAD);
        D.due("feed(-1, 98)", x.feed(-1, 98), OverHill.BAD);
        D.due("nothing came", x.count(4), 0);
        D.due("b0 and two bytes that are not told", x.feed(2, 'b' | '0' << 8 | 'x' << 16 | 'x' << 24), 2);
        D.due(":7", x.feed(2, ':' | '7' << 8), 4);
        D.due("b0:7", x.table(), 1);
        D.due("the lowest first", x.loses(0, 0), 7);
        for (int i = 1; i <= 29; i++) {
            D.due("4 bytes", x.feed(4, -1), 4 * i);
        }
        D.due("119 bytes", x.feed(3, 0), 119);
        D.due("121 bytes", x.feed(2, 0), OverHill.FULL);
        D.due("119 bytes still", x.count(4), 119);
        D.due("120 bytes", x.feed(1, 0), 120);
        D.due("one more", x.feed(1, 0), OverHill.FULL);
        D.due("BAD ahead of FULL", x.feed(5, 0), OverHill.BAD);
        D.due("byte 255 is the fault", x.table(), -100);
        D.due("then it is empty", x.count(4), 0);
    }

    private static OverHill withEngine() {
        OverHill x = new OverHill();
        x.engine(1, 1);
        return x;
    }

    private static void promise8() {
        OverHill x = withEngine();
        String[] heads = {"", "1", "12,3", "B", "x0:1", " b0:1", "b", "bb0:1", "b3:1", "b9:1", "b/", "b:", "e1:1", "e6:1", "b0",
            "b0;1", "b01", "e0", "b0:", "b0: 1", "b0:,", "b0:-1", "b0:x", "b0::"};
        int[] faults = {0, 0, 0, 0, 0, 0, 1, 1, 1, 1, 1, 1, 1, 1, 2, 2, 2, 2, 3, 3, 3, 3, 3, 3};
        for (int i = 0; i < heads.length; i++) {
            D.due("'" + heads[i] + "'", Due.table(x, heads[i]), -100 - faults[i]);
        }
        String[] good = {"b0:0", "b1:00000", "b2:99999", "e0:99999", "b0:5,5,6", "e0:6,5,5", "b0:7,10", "e0:10,9",
            "b0:0,1,2,3,4,5,6,7,8,9,10,11,12", "e0:99999,99999,99999,99999,99999,9999,999,99,9,8,7,6,00005"};
        int[] numbers = {1, 1, 1, 1, 3, 3, 2, 2, 13, 13};
        for (int i = 0; i < good.length; i++) {
            D.due(good[i], Due.table(x, good[i]), numbers[i]);
            D.due("the tape is empty then", x.count(4), 0);
        }
        D.due("no engine yet", Due.table(new OverHill(), "e0:1"), -101);
    }

    private static void faultsOfNumbers() {
        OverHill x = withEngine();
        String[] texts = {"b0:1x", "b0:1 ", "b0:1,", "b0:1,,", "b0:1,x", "b0:5,4", "b0:5,4x", "b0:5,4,9", "b0:50,49",
            "e0:5,6", "e0:50,51,", "b0:123456", "b0:12345x", "b0:1,123456", "b0:20000,123456", "e0:5,123456",
            "e0:99999,123456", "b0:20000,12345,", "b0:0,0,0,0,0,0,0,0,0,0,0,0,0,", "b0:0,0,0,0,0,0,0,0,0,0,0,0,0,0",
            "b0:1,1,1,1,1,1,1,1,1,1,1,1,0,", "b0:0,0,0,0,0,0,0,0,0,0,0,0,0x", "e0:3,2,1,2"};
        int[] faults = {4, 4, 5, 5, 5, 5, 5, 5, 6,
            5, 6, 8, 8, 10, 9, 5,
            14, 9, 28, 28,
            27, 28, 9};
        for (int i = 0; i < texts.length; i++) {
            D.due(texts[i], Due.table(x, texts[i]), -100 - faults[i]);
        }
    }

    private static void faultsEmptyTheTape() {
        OverHill x = withEngine();
        D.due("b0:3", Due.table(x, "b0:3"), 1);
        D.due("a fault in the second number", Due.table(x, "b0:9,8"), -105);
        D.due("the tape is empty then", x.count(4), 0);
        D.due("the table stays", x.loses(0, 600), 3);
        D.due("tables are no changes", x.undo(), OverHill.STATE);
    }

    private static void promise9() {
        OverHill x = new OverHill();
        int[][] bad = {{-1, 0}, {3, 0}, {0, -1}, {0, 601}, {Integer.MIN_VALUE, 0}, {0, Integer.MAX_VALUE}};
        for (int[] of : bad) {
            D.due("loses(" + of[0] + ", " + of[1] + ")", x.loses(of[0], of[1]), OverHill.BAD);
        }
        check(x, 0, new int[] {0, 0, 9, 0, 10, 1, 599, 59, 600, 60});
        Due.table(x, "b1:10,20,100");
        check(x, 1, new int[] {0, 10, 25, 15, 49, 19, 50, 20, 51, 21, 99, 98, 100, 100, 101, 100, 600, 100});
        Due.table(x, "b2:7");
        check(x, 2, new int[] {0, 7, 49, 7, 600, 7});
        Due.table(x, "b2:0,0,0,0,0,0,0,0,0,0,0,10,60");
        check(x, 2, new int[] {500, 0, 549, 9, 550, 10, 575, 35, 599, 59, 600, 60});
        x.bore(1, 2, 10);
        check(x, 1, new int[] {0, 11, 25, 16, 49, 20, 100, 110});
        check(x, 0, new int[] {100, 10});
        x.bore(0, 2, 99);
        check(x, 0, new int[] {19, 1, 100, 19, 600, 119});
        Due.table(x, "b0:99999");
        check(x, 0, new int[] {600, 198998});
    }

    /** Flows and what is lost at each. */
    private static void check(OverHill x, int bore, int[] pairs) {
        for (int i = 0; i < pairs.length; i += 2) {
            D.due("loses(" + bore + ", " + pairs[i] + ")", x.loses(bore, pairs[i]), pairs[i + 1]);
        }
    }

    private static void promise10() {
        OverHill x = new OverHill();
        D.due("no engine", x.lifts(0, 0), OverHill.BAD);
        x.engine(1, 1);
        x.engine(1, 1);
        int[][] bad = {{-1, 0}, {2, 0}, {0, -1}, {0, 601}};
        for (int[] of : bad) {
            D.due("lifts(" + of[0] + ", " + of[1] + ")", x.lifts(of[0], of[1]), OverHill.BAD);
        }
        int[] alone = {0, 10000, 1, 9990, 600, 4000};
        for (int i = 0; i < alone.length; i += 2) {
            D.due("without a table", x.lifts(0, alone[i]), alone[i + 1]);
        }
        Due.table(x, "e1:1000,500,0");
        int[] told = {0, 1000, 1, 990, 25, 750, 49, 510, 50, 500, 99, 10, 100, 0, 600, 0};
        for (int i = 0; i < told.length; i += 2) {
            D.due("by its table at " + told[i], x.lifts(1, told[i]), told[i + 1]);
        }
        x.bore(1, 2, 99);
        D.due("age is of bores", x.lifts(1, 25), 750);
        D.due("the other one has none", x.lifts(0, 25), 9750);
    }
}
