/** What the tests share: answers that are due are counted, others are printed. */
final class Due {
    private int asked;
    private int wrong;
    private String sentence = "";

    /** The sentence of the document that the answers behind it are due to. */
    void sentence(String words) {
        sentence = "[" + words + "] ";
    }

    void due(String call, long got, long want) {
        asked++;
        if (got != want) {
            wrong++;
            System.out.println(sentence + call + " answered " + got + ", due is " + want);
        }
    }

    /** The same answer is due for each of these numbers. */
    void each(String call, int[] numbers, java.util.function.IntUnaryOperator asked, int want) {
        for (int number : numbers) {
            due(call + " of " + number, asked.applyAsInt(number), want);
        }
    }

    /** A rule that holds or does not. */
    void holds(String rule, boolean held) {
        due(rule, held ? 1 : 0, 1);
    }

    /** Feeds a text to the tape; what the last feed() answered. */
    static int feed(OverHill x, String text) {
        int answer = 0;
        for (int i = 0; i < text.length(); i += 4) {
            int n = Math.min(4, text.length() - i);
            int v = 0;
            for (int b = n - 1; b >= 0; b--) {
                v = v << 8 | text.charAt(i + b);
            }
            answer = x.feed(n, v);
        }
        return answer;
    }

    /** Feeds a text and tells it as a table. */
    static int table(OverHill x, String text) {
        feed(x, text);
        return x.table();
    }

    void end() {
        System.out.println(asked + " asked, " + wrong + " wrong");
        if (wrong != 0 || asked == 0) {
            System.exit(1);
        }
    }
}
