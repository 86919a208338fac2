/** What the tests share: they extend this class, call due() for each answer, and end with tellAndExit(). */
abstract class Checks {
    static final int INVALID = CrookedSums.INVALID_ARGUMENT;
    static final int NOT_POSSIBLE = CrookedSums.NOT_POSSIBLE;
    static final int LIMIT = CrookedSums.LIMIT_REACHED;
    static final int NOT_FOUND = CrookedSums.NOT_FOUND;
    static final int[] FAR = {Integer.MIN_VALUE, -65536, -9, -2, -1, 256, 65536, Integer.MAX_VALUE};

    // Four tokens with exclusive or: each token is its own return, and there are many little squares.
    static final String KLEIN = "0123/1032/2301/3210";
    // Five tokens, neutral 0 at both sides, not associative: each token with itself is 0.
    static final String LOOP5 = "01234/10342/24013/32401/43120";
    // The same as KLEIN with eight tokens.
    static final String XOR8 = "01234567/10325476/23016745/32107654/45670123/54761032/67452301/76543210";

    interface OfTwo {
        int of(CrookedSums x, int a, int b);
    }

    static int wrong = 0;
    static int checks = 0;
    static String about = "";

    static void wrong(String what) {
        wrong++;
        System.out.println(about + what);
    }

    static void due(String call, long got, long want) {
        checks++;
        if (got != want) {
            wrong(call + " answered " + got + ", due is " + want);
        }
    }

    static void dueD(String call, double got, double want) {
        checks++;
        if (got != want) {
            wrong(call + " answered " + got + ", due is " + want);
        }
    }

    static CrookedSums begun(int tokens, int crook) {
        CrookedSums x = new CrookedSums();
        x.begin(tokens, crook);
        return x;
    }

    static CrookedSums loaded(int tokens, String text) {
        CrookedSums x = begun(tokens, 1);
        type(x, text);
        if (x.load() < 0) {
            wrong("could not load " + text);
        }
        return x;
    }

    /** Empties the pad and appends the text; tells the last answer. */
    static int type(CrookedSums x, String text) {
        x.clear();
        int length = 0;
        for (int i = 0; i < text.length(); i++) {
            length = x.append(text.charAt(i));
        }
        return length;
    }

    static String tableOf(CrookedSums x) {
        StringBuilder text = new StringBuilder();
        int n = x.count(0);
        for (int a = 0; a < n; a++) {
            text.append(a > 0 ? "/" : "");
            for (int b = 0; b < n; b++) {
                text.append(x.sum(a, b));
            }
        }
        return text.toString();
    }

    static void dueText(String name, String got, String want) {
        checks++;
        if (!got.equals(want)) {
            wrong(name + " is " + got + ", due is " + want);
        }
    }

    static void dueTable(String name, CrookedSums x, String want) {
        dueText(name + ": the table", tableOf(x), want);
    }

    /** A table of the tokens in which a + b is a and the place p[b] added up: its first row is p. */
    static CrookedSums withFirstRow(int... p) {
        int n = p.length;
        StringBuilder text = new StringBuilder();
        for (int a = 0; a < n; a++) {
            text.append(a > 0 ? "/" : "");
            for (int b = 0; b < n; b++) {
                text.append((a + p[b]) % n);
            }
        }
        return loaded(n, text.toString());
    }

    /** What an object answers without a change. */
    static String looksOf(CrookedSums x) {
        StringBuilder text = new StringBuilder(tableOf(x));
        for (int what = 0; what <= 11; what++) {
            text.append(" count ").append(x.count(what));
        }
        for (int way = 0; way <= 2; way++) {
            text.append(" fault ").append(x.fault(way));
        }
        text.append(" value ").append(x.value());
        for (int what = 0; what <= 3; what++) {
            text.append(" step ").append(x.step(0, what)).append(" sums ").append(x.sums(what));
        }
        return text.toString();
    }

    /** All that an object holds: its looks, and then, by using it up, its history, its snapshot and its pad. */
    static String allOf(CrookedSums x) {
        StringBuilder text = new StringBuilder(looksOf(x));
        for (int i = 0; i < 5; i++) {
            text.append("; undo ").append(x.undo()).append(' ').append(tableOf(x));
        }
        text.append("; restore ").append(x.restore()).append(' ').append(tableOf(x));
        text.append("; load ").append(x.load()).append(' ').append(tableOf(x));
        return text.toString();
    }

    static void tellAndExit() {
        System.out.println(wrong == 0 ? "all answers are as due" : wrong + " answers are not as due");
        if (wrong != 0) {
            System.exit(1);
        }
    }
}
