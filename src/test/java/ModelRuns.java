import java.util.ArrayDeque;
import java.util.ArrayList;
import java.util.Deque;
import java.util.List;
import java.util.Random;
import java.util.TreeMap;
import java.util.TreeSet;

// Long runs of calls, the same each time, each answer compared with that of a plain second model.
public final class ModelRuns {
    private static final int RUNS = 4000;
    private static final int CALLS = 512;
    private static final int[] FAR = {Integer.MIN_VALUE, -1000000007, -9, -2, -1, 8, 9, 31, 32, 33, 255, 256, 65536,
        1 << 30, Integer.MAX_VALUE};

    private final int run;
    private final Random random;
    private final CrookedSums real = new CrookedSums();
    private final Model model = new Model();
    private int calls = 0;
    private int wrong = 0;

    private ModelRuns(int run) {
        this.run = run;
        this.random = new Random(run);
    }

    public static void main(String[] args) {
        int wrong = 0;
        TreeMap<String, Integer> seen = new TreeMap<>();
        for (int run = 0; run < RUNS && wrong < 20; run++) {
            wrong += new ModelRuns(run).go(seen);
        }
        wrong += dueKinds(seen);
        System.out.println(wrong == 0 ? "all answers are as due" : wrong + " answers are not as due");
        if (wrong != 0) {
            System.exit(1);
        }
    }

    /** Each method must have answered with a number and with each error that it can answer. */
    private static int dueKinds(TreeMap<String, Integer> seen) {
        String[] due = {"begin -1", "begin ok", "rows -1", "rows ok", "columns -1", "columns ok", "names -1", "names ok",
            "swap -1", "swap -2", "swap ok", "append -1", "append -3", "append ok", "clear ok", "fault -1", "fault -4",
            "fault ok", "load -2", "load ok", "value -2", "value ok", "step -1", "step -2", "step -4", "step ok",
            "sum -1", "sum ok", "between -1", "between ok", "returns -1", "returns ok", "token -1", "token ok",
            "ring -1", "ring ok", "ringAt -1", "ringAt -4", "ringAt ok", "count -1", "count -4", "count ok", "ways -1",
            "ways -2", "ways ok", "sums -1", "sums -2", "sums ok", "cut -1", "cut -2", "cut -4", "cut ok",
            "ifSwapped -1", "ifSwapped -2", "ifSwapped ok", "best -1", "best -4", "best ok", "undo -2", "undo ok",
            "save ok", "restore -2", "restore ok"};
        int missing = 0;
        for (String kind : due) {
            if (seen.getOrDefault(kind, 0) < 20) {
                missing++;
                System.out.println("the runs answer too seldom: " + kind);
            }
        }
        return missing;
    }

    private int go(TreeMap<String, Integer> seen) {
        while (calls < CALLS && wrong == 0) {
            if (random.nextInt(8) == 0) {
                type(text(), seen);
            } else {
                one(seen);
            }
        }
        return wrong;
    }

    private void check(String name, String arguments, int got, int want, TreeMap<String, Integer> seen) {
        calls++;
        seen.merge(name + (want < 0 ? " " + want : " ok"), 1, Integer::sum);
        if (got != want) {
            wrong++;
            System.out.println("run " + run + ", call " + calls + ": " + name + "(" + arguments + ") answered " + got
                + ", due is " + want + "; the table is " + model.text() + ", the pad " + model.pad);
        }
    }

    private void type(String text, TreeMap<String, Integer> seen) {
        if (calls + text.length() + 1 > CALLS) {
            return;
        }
        check("clear", "", real.clear(), model.clear(), seen);
        for (int i = 0; i < text.length(); i++) {
            check("append", "" + (int) text.charAt(i), real.append(text.charAt(i)), model.append(text.charAt(i)), seen);
        }
    }

    private int near(int most) {
        return random.nextInt(24) == 0 ? FAR[random.nextInt(FAR.length)] : random.nextInt(most);
    }

    private int tokenNear() {
        return near(model.n() + (random.nextInt(12) == 0 ? 1 : 0));
    }

    private void one(TreeMap<String, Integer> seen) {
        int a = tokenNear();
        int b = tokenNear();
        int c = tokenNear();
        int d = tokenNear();
        boolean left = random.nextBoolean();
        int[] square = model.someSquare(random);
        if (square != null && random.nextInt(4) > 0) {
            a = square[0];
            b = square[1];
            c = square[2];
            d = square[3];
        }
        int what;
        switch (random.nextInt(31)) {
            case 0:
                if (random.nextInt(3) == 0) {
                    a = near(8) + 1;
                    b = near(8) + 1;
                    check("begin", a + ", " + b, real.begin(a, b), model.begin(a, b), seen);
                }
                break;
            case 1:
                check("rows", a + ", " + b, real.rows(a, b), model.rows(a, b), seen);
                break;
            case 2:
                check("columns", c + ", " + d, real.columns(c, d), model.columns(c, d), seen);
                break;
            case 3:
                check("names", a + ", " + c, real.names(a, c), model.names(a, c), seen);
                break;
            case 4:
            case 5:
                check("swap", a + ", " + b + ", " + c + ", " + d, real.swap(a, b, c, d), model.swap(a, b, c, d), seen);
                break;
            case 6:
                what = 31 + random.nextInt(98);
                what = random.nextInt(8) == 0 ? FAR[random.nextInt(FAR.length)] : what;
                check("append", "" + what, real.append(what), model.append(what), seen);
                break;
            case 7:
                if (random.nextInt(8) == 0) {
                    check("clear", "", real.clear(), model.clear(), seen);
                }
                break;
            case 8:
            case 9:
                what = near(4);
                check("fault", "" + what, real.fault(what), model.fault(what), seen);
                break;
            case 10:
                check("load", "", real.load(), model.load(), seen);
                break;
            case 11:
                check("value", "", real.value(), model.value(), seen);
                break;
            case 12:
                what = near(5);
                a = near(6);
                check("step", a + ", " + what, real.step(a, what), model.step(a, what), seen);
                break;
            case 13:
                check("sum", a + ", " + c, real.sum(a, c), model.sum(a, c), seen);
                break;
            case 14:
                check("between", a + ", " + c + ", " + left, real.between(a, c, left), model.between(a, c, left), seen);
                break;
            case 15:
                check("returns", a + ", " + c + ", " + left, real.returns(a, c, left), model.returns(a, c, left), seen);
                break;
            case 16:
            case 17:
                what = near(10);
                check("token", a + ", " + what, real.token(a, what), model.token(a, what), seen);
                break;
            case 18:
                what = near(1 << model.n());
                check("ring", "" + what, real.ring(what), model.ring(what), seen);
                break;
            case 19:
                what = near(random.nextBoolean() ? 4 : 12);
                check("ringAt", "" + what, real.ringAt(what), model.ringAt(what), seen);
                break;
            case 20:
            case 21:
                what = near(13);
                check("count", "" + what, real.count(what), model.count(what), seen);
                break;
            case 22:
                check("crooked, compared with the model's", "", Double.compare(real.crooked(), model.crooked()), 0, seen);
                break;
            case 23:
                what = near(3);
                check("ways", a + ", " + what, real.ways(a, what), model.ways(a, what), seen);
                break;
            case 24:
                what = near(5);
                check("sums", "" + what, real.sums(what), model.sums(what), seen);
                break;
            case 25:
                check("cut", "" + a, real.cut(a), model.cut(a), seen);
                break;
            case 26:
                what = near(4);
                check("ifSwapped", a + ", " + b + ", " + c + ", " + d + ", " + what, real.ifSwapped(a, b, c, d, what),
                    model.ifSwapped(a, b, c, d, what), seen);
                break;
            case 27:
                what = near(6);
                check("best", "" + what, real.best(what), model.best(what), seen);
                break;
            case 28:
                check("undo", "", real.undo(), model.undo(), seen);
                break;
            case 29:
                if (random.nextInt(4) == 0) {
                    check("save", "", real.save(), model.save(), seen);
                }
                break;
            default:
                check("restore", "", real.restore(), model.restore(), seen);
        }
    }

    private String text() {
        int n = model.n();
        String text;
        switch (random.nextInt(6)) {
            case 0:
            case 1:
                text = someTable(n);
                break;
            case 2:
            case 3:
                text = someSum(n, random.nextInt(5));
                break;
            case 4:
                text = someRow(n);
                break;
            default:
                text = random.nextInt(10) == 0 ? "(".repeat(random.nextInt(50)) : someSum(n, 2) + someRow(n);
        }
        if (random.nextInt(4) == 0 && !text.isEmpty()) {
            StringBuilder spoilt = new StringBuilder(text);
            int place = random.nextInt(text.length());
            char sign = "0123456789()+/-a".charAt(random.nextInt(16));
            switch (random.nextInt(3)) {
                case 0:
                    spoilt.setCharAt(place, sign);
                    break;
                case 1:
                    spoilt.deleteCharAt(place);
                    break;
                default:
                    spoilt.insert(place, sign);
            }
            text = spoilt.toString();
        }
        return text.length() > 82 ? text.substring(0, 82) : text;
    }

    private String someRow(int n) {
        StringBuilder row = new StringBuilder();
        int length = random.nextInt(10);
        for (int i = 0; i < length; i++) {
            row.append(random.nextInt(n));
        }
        return row.toString();
    }

    private String someSum(int n, int depth) {
        StringBuilder sum = new StringBuilder();
        int things = 1 + random.nextInt(3);
        for (int i = 0; i < things; i++) {
            sum.append(i > 0 ? "+" : "");
            if (depth > 0 && random.nextInt(3) > 0) {
                sum.append('(').append(someSum(n, depth - 1)).append(')');
            } else {
                sum.append(random.nextInt(n));
            }
        }
        return sum.toString();
    }

    private String someTable(int n) {
        int[][] t = new int[n][n];
        for (int[] row : t) {
            java.util.Arrays.fill(row, -1);
        }
        // Where the random filling finds no end soon, the table of now does.
        int[] left = {2000};
        return fill(t, 0, left) ? Model.text(t) : model.text();
    }

    private boolean fill(int[][] t, int cell, int[] left) {
        int n = t.length;
        if (cell == n * n) {
            return true;
        }
        if (left[0]-- <= 0) {
            return false;
        }
        int shift = random.nextInt(n);
        int factor = n % 2 == 0 ? 1 : 1 + random.nextInt(n - 1);
        for (int k = 0; k < n; k++) {
            int token = n == 7 || n == 5 || n == 3 ? (shift + k * factor) % n : (shift + k) % n;
            if (Model.fits(t, cell / n, cell % n, token)) {
                t[cell / n][cell % n] = token;
                if (fill(t, cell + 1, left)) {
                    return true;
                }
                t[cell / n][cell % n] = -1;
            }
        }
        return false;
    }
}

/** The document once more, in the plainest words, with no thought for speed. */
final class Model {
    int[][] t = crook(4, 1);
    int[][] snapshot = null;
    final Deque<int[][]> history = new ArrayDeque<>();
    String pad = "";

    int n() {
        return t.length;
    }

    static int[][] crook(int n, int crook) {
        int[][] t = new int[n][n];
        for (int a = 0; a < n; a++) {
            for (int b = 0; b < n; b++) {
                t[a][b] = (crook * a + b) % n;
            }
        }
        return t;
    }

    static int[][] copy(int[][] t) {
        int[][] other = new int[t.length][];
        for (int a = 0; a < t.length; a++) {
            other[a] = t[a].clone();
        }
        return other;
    }

    static String text(int[][] t) {
        List<String> rows = new ArrayList<>();
        for (int[] row : t) {
            StringBuilder text = new StringBuilder();
            for (int x : row) {
                text.append(x);
            }
            rows.add(text.toString());
        }
        return String.join("/", rows);
    }

    String text() {
        return text(t);
    }

    static boolean fits(int[][] t, int a, int b, int token) {
        for (int x = 0; x < b; x++) {
            if (t[a][x] == token) {
                return false;
            }
        }
        for (int x = 0; x < a; x++) {
            if (t[x][b] == token) {
                return false;
            }
        }
        return true;
    }

    private boolean no(int... tokens) {
        for (int token : tokens) {
            if (token < 0 || token >= n()) {
                return true;
            }
        }
        return false;
    }

    private int change(int[][] next) {
        history.addLast(t);
        if (history.size() > 4) {
            history.removeFirst();
        }
        int different = 0;
        if (next.length == n()) {
            for (int a = 0; a < n(); a++) {
                for (int b = 0; b < n(); b++) {
                    different += t[a][b] == next[a][b] ? 0 : 1;
                }
            }
        }
        t = next;
        return different;
    }

    int begin(int n, int crook) {
        if (n < 2 || n > 8 || crook < 1 || crook > 7
                || !java.math.BigInteger.valueOf(n).gcd(java.math.BigInteger.valueOf(crook)).equals(java.math.BigInteger.ONE)) {
            return -1;
        }
        change(crook(n, crook));
        return triples(t);
    }

    int rows(int a, int b) {
        if (no(a, b) || a == b) {
            return -1;
        }
        int[][] next = copy(t);
        next[a] = t[b].clone();
        next[b] = t[a].clone();
        return change(next);
    }

    int columns(int a, int b) {
        if (no(a, b) || a == b) {
            return -1;
        }
        int[][] next = copy(t);
        for (int x = 0; x < n(); x++) {
            next[x][a] = t[x][b];
            next[x][b] = t[x][a];
        }
        return change(next);
    }

    int names(int a, int b) {
        if (no(a, b) || a == b) {
            return -1;
        }
        int[][] next = copy(t);
        for (int[] row : next) {
            for (int x = 0; x < n(); x++) {
                row[x] = row[x] == a ? b : row[x] == b ? a : row[x];
            }
        }
        return change(next);
    }

    private static boolean square(int[][] t, int a, int b, int c, int d) {
        return a != b && c != d && t[a][c] == t[b][d] && t[a][d] == t[b][c];
    }

    private static int[][] swapped(int[][] t, int a, int b, int c, int d) {
        int[][] next = copy(t);
        next[a][c] = t[a][d];
        next[a][d] = t[a][c];
        next[b][c] = t[b][d];
        next[b][d] = t[b][c];
        return next;
    }

    int swap(int a, int b, int c, int d) {
        if (no(a, b, c, d) || a == b || c == d) {
            return -1;
        }
        if (!square(t, a, b, c, d)) {
            return -2;
        }
        int before = triples(t);
        change(swapped(t, a, b, c, d));
        return 1000 + triples(t) - before;
    }

    private static List<int[]> squares(int[][] t) {
        List<int[]> found = new ArrayList<>();
        int n = t.length;
        for (int a = 0; a < n; a++) {
            for (int b = a + 1; b < n; b++) {
                for (int c = 0; c < n; c++) {
                    for (int d = c + 1; d < n; d++) {
                        if (square(t, a, b, c, d)) {
                            found.add(new int[] {a, b, c, d});
                        }
                    }
                }
            }
        }
        return found;
    }

    int[] someSquare(Random random) {
        List<int[]> all = squares(t);
        if (all.isEmpty()) {
            return null;
        }
        int[] one = all.get(random.nextInt(all.size())).clone();
        if (random.nextBoolean()) {
            return one;
        }
        return new int[] {one[1], one[0], one[3], one[2]};
    }

    int append(int code) {
        if (code < 33 || code > 126) {
            return -1;
        }
        if (pad.length() == 80) {
            return -3;
        }
        pad += (char) code;
        return pad.length();
    }

    int clear() {
        int had = pad.length();
        pad = "";
        return had;
    }

    int fault(int way) {
        return way == 0 ? tableFault() : way == 1 ? sumFault() : way == 2 ? rowFault() : -1;
    }

    private String digits() {
        return "01234567".substring(0, n());
    }

    private int tableFault() {
        int n = n();
        int full = n * (n + 1) - 1;
        for (int i = 0; i < pad.length(); i++) {
            char sign = pad.charAt(i);
            if (i >= full) {
                return i;
            }
            int a = i / (n + 1);
            int b = i % (n + 1);
            if (b == n) {
                if (sign != '/') {
                    return i;
                }
                continue;
            }
            String row = pad.substring(a * (n + 1), i);
            StringBuilder above = new StringBuilder();
            for (int x = 0; x < a; x++) {
                above.append(pad.charAt(x * (n + 1) + b));
            }
            if (digits().indexOf(sign) < 0 || row.indexOf(sign) >= 0 || above.indexOf("" + sign) >= 0) {
                return i;
            }
        }
        return pad.length() < full ? pad.length() : -4;
    }

    /** Reduces from the inside: a thing is T, and a bracket with things and "+" becomes a T. */
    private boolean isSum(String text) {
        if (!text.matches("[" + digits() + "()+]*")) {
            return false;
        }
        String now = text.replaceAll("[0-9]", "T");
        String before = "";
        while (!now.equals(before)) {
            before = now;
            now = now.replaceAll("\\(T(\\+T)*\\)", "T");
        }
        return now.matches("T(\\+T)*");
    }

    /** Whether some pad of any length that is a sum begins so: a token and brackets may be wanting. */
    private boolean beginsSum(String text) {
        for (int brackets = 0; brackets <= text.length(); brackets++) {
            String closing = ")".repeat(brackets);
            if (isSum(text + closing) || isSum(text + "0" + closing)) {
                return true;
            }
        }
        return false;
    }

    private int sumFault() {
        if (isSum(pad)) {
            return -4;
        }
        for (int i = 0; i < pad.length(); i++) {
            if (!beginsSum(pad.substring(0, i + 1))) {
                return i;
            }
        }
        return pad.length();
    }

    private int rowFault() {
        for (int i = 0; i < pad.length(); i++) {
            if (i == 7 || digits().indexOf(pad.charAt(i)) < 0) {
                return i;
            }
        }
        return pad.isEmpty() ? 0 : -4;
    }

    int load() {
        if (tableFault() != -4) {
            return -2;
        }
        String[] rows = pad.split("/");
        int[][] next = new int[n()][n()];
        for (int a = 0; a < n(); a++) {
            for (int b = 0; b < n(); b++) {
                next[a][b] = rows[a].charAt(b) - '0';
            }
        }
        pad = "";
        return change(next);
    }

    /** Cuts a sum at its last "+" that stands in no bracket: what is left of it comes first. */
    private int evaluate(int from, int to, List<int[]> steps) {
        int depth = 0;
        for (int i = to - 1; i >= from; i--) {
            char sign = pad.charAt(i);
            depth += sign == ')' ? 1 : sign == '(' ? -1 : 0;
            if (sign == '+' && depth == 0) {
                int left = evaluate(from, i, steps);
                int right = evaluate(i + 1, to, steps);
                steps.add(new int[] {left, right, t[left][right], i});
                return t[left][right];
            }
        }
        return pad.charAt(from) == '(' ? evaluate(from + 1, to - 1, steps) : pad.charAt(from) - '0';
    }

    int value() {
        return sumFault() != -4 ? -2 : evaluate(0, pad.length(), new ArrayList<>());
    }

    int step(int step, int what) {
        if (step < 0 || what < 0 || what > 3) {
            return -1;
        }
        if (sumFault() != -4) {
            return -2;
        }
        List<int[]> steps = new ArrayList<>();
        evaluate(0, pad.length(), steps);
        return step < steps.size() ? steps.get(step)[what] : -4;
    }

    int sum(int a, int b) {
        return no(a, b) ? -1 : t[a][b];
    }

    int between(int a, int b, boolean atLeft) {
        if (no(a, b)) {
            return -1;
        }
        int x = 0;
        while ((atLeft ? t[x][a] : t[a][x]) != b) {
            x++;
        }
        return x;
    }

    int returns(int s, int a, boolean atLeft) {
        if (no(s, a)) {
            return -1;
        }
        int now = atLeft ? t[a][s] : t[s][a];
        int times = 1;
        while (now != s) {
            now = atLeft ? t[a][now] : t[now][a];
            times++;
        }
        return times;
    }

    private static TreeSet<Integer> ringOf(int[][] t, int seeds) {
        TreeSet<Integer> ring = new TreeSet<>();
        for (int x = 0; x < t.length; x++) {
            if ((seeds & 1 << x) != 0) {
                ring.add(x);
            }
        }
        int before = 0;
        while (before != ring.size()) {
            before = ring.size();
            TreeSet<Integer> more = new TreeSet<>(ring);
            for (int x : ring) {
                for (int y : ring) {
                    more.add(t[x][y]);
                }
            }
            ring = more;
        }
        return ring;
    }

    private static int bits(TreeSet<Integer> set) {
        int bits = 0;
        for (int x : set) {
            bits += 1 << x;
        }
        return bits;
    }

    /** Each ring is the ring of itself as seeds. */
    private static TreeSet<Integer> rings(int[][] t) {
        TreeSet<Integer> all = new TreeSet<>();
        for (int seeds = 1; seeds < 1 << t.length; seeds++) {
            all.add(bits(ringOf(t, seeds)));
        }
        return all;
    }

    private static int commuting(int[][] t) {
        int found = 0;
        for (int a = 0; a < t.length; a++) {
            for (int b = 0; b < t.length; b++) {
                found += t[a][b] == t[b][a] ? 1 : 0;
            }
        }
        return found;
    }

    private static int triples(int[][] t) {
        int found = 0;
        for (int a = 0; a < t.length; a++) {
            for (int b = 0; b < t.length; b++) {
                for (int c = 0; c < t.length; c++) {
                    found += t[t[a][b]][c] == t[a][t[b][c]] ? 1 : 0;
                }
            }
        }
        return found;
    }

    private boolean neutral(int e, boolean atLeft) {
        for (int x = 0; x < n(); x++) {
            if ((atLeft ? t[e][x] : t[x][e]) != x) {
                return false;
            }
        }
        return true;
    }

    int token(int token, int what) {
        if (no(token) || what < 0 || what > 8) {
            return -1;
        }
        int found = 0;
        switch (what) {
            case 0:
                for (int b = 0; b < n(); b++) {
                    found += t[token][b] == t[b][token] ? 1 : 0;
                }
                return found;
            case 1:
                for (int b = 0; b < n(); b++) {
                    for (int c = 0; c < n(); c++) {
                        found += t[t[token][b]][c] == t[token][t[b][c]] ? 1 : 0;
                    }
                }
                return found;
            case 2:
                return neutral(token, true) ? 1 : 0;
            case 3:
                return neutral(token, false) ? 1 : 0;
            case 4:
                return ringOf(t, 1 << token).size();
            case 5:
                return bits(ringOf(t, 1 << token));
            case 6:
                return t[token][token];
            case 7:
                TreeSet<String> rounds = new TreeSet<>();
                for (int s = 0; s < n(); s++) {
                    TreeSet<Integer> round = new TreeSet<>();
                    for (int x = s; round.add(x); x = t[token][x]) {
                        continue;
                    }
                    rounds.add(round.toString());
                }
                return rounds.size();
            default:
                int[] now = t[token].clone();
                int times = 1;
                while (!inOrder(now)) {
                    for (int s = 0; s < n(); s++) {
                        now[s] = t[token][now[s]];
                    }
                    times++;
                }
                return times;
        }
    }

    private static boolean inOrder(int[] row) {
        for (int x = 0; x < row.length; x++) {
            if (row[x] != x) {
                return false;
            }
        }
        return true;
    }

    int ring(int seeds) {
        return seeds < 1 || seeds >= 1 << n() ? -1 : bits(ringOf(t, seeds));
    }

    int ringAt(int place) {
        if (place < 0) {
            return -1;
        }
        List<Integer> all = new ArrayList<>(rings(t));
        return place < all.size() ? all.get(place) : -4;
    }

    private int seeds() {
        for (int most = 1; most <= n(); most++) {
            for (int seeds = 1; seeds < 1 << n(); seeds++) {
                if (Integer.bitCount(seeds) == most && ringOf(t, seeds).size() == n()) {
                    return seeds;
                }
            }
        }
        throw new IllegalStateException();
    }

    int count(int what) {
        int found = 0;
        switch (what) {
            case 0:
                return n();
            case 1:
                return commuting(t);
            case 2:
                return triples(t);
            case 3:
            case 4:
                for (int e = 0; e < n(); e++) {
                    if (neutral(e, what == 3)) {
                        return e;
                    }
                }
                return -4;
            case 5:
                for (int a = 0; a < n(); a++) {
                    found += t[a][a] == a ? 1 : 0;
                }
                return found;
            case 6:
                return rings(t).size();
            case 7:
                return Integer.bitCount(seeds());
            case 8:
                return seeds();
            case 9:
                return squares(t).size();
            case 10:
                return pad.length();
            case 11:
                return history.size();
            default:
                return -1;
        }
    }

    double crooked() {
        int all = n() * n() * n();
        return (double) (all - triples(t)) / all;
    }

    /** The sums of all ways, each way by itself. */
    private List<Integer> allWays(String row) {
        List<Integer> found = new ArrayList<>();
        if (row.length() == 1) {
            found.add(row.charAt(0) - '0');
        }
        for (int cut = 1; cut < row.length(); cut++) {
            for (int x : allWays(row.substring(0, cut))) {
                for (int y : allWays(row.substring(cut))) {
                    found.add(t[x][y]);
                }
            }
        }
        return found;
    }

    private static int among(List<Integer> list, int token) {
        int found = 0;
        for (int x : list) {
            found += x == token ? 1 : 0;
        }
        return found;
    }

    int ways(int token, int way) {
        if (no(token) || way < 0 || way > 1) {
            return -1;
        }
        return rowFault() != -4 ? -2 : among(allWays(pad), token);
    }

    int sums(int what) {
        if (what < 0 || what > 3) {
            return -1;
        }
        if (rowFault() != -4) {
            return -2;
        }
        if (what == 0) {
            return bits(new TreeSet<>(allWays(pad)));
        }
        int last = pad.length() - 1;
        int fromLeft = pad.charAt(0) - '0';
        int fromRight = pad.charAt(last) - '0';
        for (int i = 1; i <= last; i++) {
            fromLeft = t[fromLeft][pad.charAt(i) - '0'];
            fromRight = t[pad.charAt(last - i) - '0'][fromRight];
        }
        if (what < 3) {
            return what == 1 ? fromLeft : fromRight;
        }
        List<Integer> all = allWays(pad);
        for (int most = all.size(); ; most--) {
            for (int token = 0; token < n(); token++) {
                if (among(all, token) == most) {
                    return token;
                }
            }
        }
    }

    int cut(int token) {
        if (no(token)) {
            return -1;
        }
        if (rowFault() != -4) {
            return -2;
        }
        for (int cut = 1; cut < pad.length(); cut++) {
            for (int x : allWays(pad.substring(0, cut))) {
                for (int y : allWays(pad.substring(cut))) {
                    if (t[x][y] == token) {
                        return cut;
                    }
                }
            }
        }
        return -4;
    }

    int ifSwapped(int a, int b, int c, int d, int what) {
        if (no(a, b, c, d) || a == b || c == d || what < 0 || what > 2) {
            return -1;
        }
        if (!square(t, a, b, c, d)) {
            return -2;
        }
        int[][] next = swapped(t, a, b, c, d);
        return what == 0 ? commuting(next) : what == 1 ? triples(next) : rings(next).size();
    }

    int best(int what) {
        if (what < 0 || what > 4) {
            return -1;
        }
        int[] best = null;
        int most = -1;
        for (int[] s : squares(t)) {
            int would = triples(swapped(t, s[0], s[1], s[2], s[3]));
            if (would > most) {
                most = would;
                best = s;
            }
        }
        return best == null ? -4 : what == 4 ? most : best[what];
    }

    int undo() {
        if (history.isEmpty()) {
            return -2;
        }
        t = history.removeLast();
        return history.size();
    }

    int save() {
        snapshot = t;
        return n();
    }

    int restore() {
        if (snapshot == null) {
            return -2;
        }
        change(snapshot);
        return n();
    }
}
