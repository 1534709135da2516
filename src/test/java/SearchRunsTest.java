import java.util.Random;

/**
 * The most of layings of all kinds, from fixed seeds: several ways, engines and tubs, little hose in
 * store, tables of all lengths. All three answers of most(), and those of others, are PlainHill's.
 */
public final class SearchRunsTest {
    private static final Due D = new Due();
    private static final int RUNS = 240;

    private static Random random;
    private static OverHill x;
    private static PlainHill y;

    public static void main(String[] args) {
        int found = 0;
        for (int run = 0; run < RUNS; run++) {
            random = new Random(1000 + run);
            x = new OverHill();
            y = new PlainHill();
            D.sentence("run " + run);
            ground();
            gear();
            parts(run % 6);
            found += ask();
        }
        D.holds("a flow is found in many of them: " + found, found > RUNS / 2);
        D.end();
    }

    private static void ground() {
        int points = 2 + random.nextInt(5);
        int steep = random.nextBoolean() ? 150 : 400;
        for (int i = 0; i < points; i++) {
            int height = random.nextInt(steep);
            D.due("point", x.point(height), y.point(height));
        }
        for (int i = 0; i < 12; i++) {
            int from = random.nextInt(points);
            int to = random.nextInt(points);
            int lengths = 1 + random.nextInt(10);
            D.due("way", x.way(from, to, lengths), y.way(from, to, lengths));
        }
    }

    private static void gear() {
        for (int bore = 0; bore < 3; bore++) {
            int store = random.nextInt(60);
            int age = random.nextInt(40);
            D.due("store", x.bore(bore, 1, store), y.bore(bore, 1, store));
            D.due("age", x.bore(bore, 2, age), y.bore(bore, 2, age));
            table("b" + bore, random.nextInt(40), random.nextInt(90));
        }
        for (int engine = 0; engine < 5; engine++) {
            D.due("engine", x.engine(engine, 9), y.engine(engine, 9));
            table("e" + engine, 4000 + random.nextInt(16000), -random.nextInt(1500));
        }
    }

    /** A table of up to thirteen numbers, each a step further than the one ahead; sometimes none is told. */
    private static void table(String head, int first, int step) {
        StringBuilder text = new StringBuilder(head).append(':').append(first);
        int v = first;
        for (int n = random.nextInt(13); n > 0; n--) {
            v = Math.max(0, v + step + (step > 0 ? 1 : -1) * random.nextInt(60));
            text.append(',').append(v);
        }
        for (int i = 0; i < text.length() && random.nextInt(200) > 0; i++) {
            D.due("feed", x.feed(1, text.charAt(i)), y.feed(1, text.charAt(i)));
        }
        D.due("table of " + text, x.table(), y.table());
    }

    private static void parts(int kind) {
        int point = random.nextInt(2);
        D.due("laying", x.laying(kind, point), y.laying(kind, point));
        int ways = random.nextInt(20) == 0 ? 7 : 1 + random.nextInt(6);
        int engines = random.nextInt(20) == 0 ? 5 : random.nextInt(5);
        for (int times = 0; times < 60 && (ways > 0 || engines > 0); times++) {
            int draw = random.nextInt(8);
            if (draw == 0) {
                part(2, 0);
            } else if (draw < 3 && engines > 0) {
                engines--;
                part(0, engines);
            } else if (ways > 0 && part(1, random.nextInt(12))) {
                ways--;
            }
        }
    }

    private static boolean part(int sort, int number) {
        int bore = random.nextInt(3);
        int parts = x.part(0, sort, number, bore);
        D.due("part(0, " + sort + ", " + number + ", " + bore + ")", parts, y.part(0, sort, number, bore));
        return parts > 0;
    }

    /** What is asked of each laying; how often there is a flow by the most. */
    private static int ask() {
        int found = 0;
        for (int need : new int[] {0, random.nextInt(9000)}) {
            int flow = x.most(0, need, 0);
            found += flow >= 0 ? 1 : 0;
            D.due("most(0, " + need + ", 0)", flow, y.most(0, need, 0));
            for (int what = 1; what < 3 && flow >= 0; what++) {
                D.due("most(0, " + need + ", " + what + ")", x.most(0, need, what), y.most(0, need, what));
            }
            D.due("flow(0, " + need + ")", x.flow(0, need), y.flow(0, need));
            D.due("bound(0, " + need + ")", x.bound(0, need), y.bound(0, need));
            for (int part = 0; part < y.of(0, 1); part++) {
                D.due("worth of " + part, x.worth(0, part, need), y.worth(0, part, need));
                D.due("goes of " + part, x.goes(0, part, need), y.goes(0, part, need));
            }
        }
        return found;
    }
}
