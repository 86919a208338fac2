import java.io.IOException;
import java.lang.reflect.Method;
import java.lang.reflect.Modifier;
import java.util.ArrayDeque;
import java.util.Deque;
import java.util.LinkedHashMap;
import java.util.Map;

// Each sentence under "## Terms" of the document, with the edges that it names.
public final class TermSentences extends Sentences {
    private static final String Z4 = "0123/1230/2301/3012";
    private static final String[] PADS = {"", "1+(2+3)", "1+((2", "1+", "123", "1", KLEIN, "(".repeat(80)};

    private interface Call {
        int on(CrookedSums x);
    }

    // ---- the whole class

    private static void useAndNumbers() {
        section("## What it is");
        says("An object is used for at most 512 calls after it has been made");
        CrookedSums x = new CrookedSums();
        for (int call = 1; call < 512; call++) {
            x.rows(0, 1);
        }
        due("the 512th call", x.sum(0, 0), 1);
        section("## Terms");
        says("All numbers are whole numbers, but where a double is told.");
        for (Method method : CrookedSums.class.getDeclaredMethods()) {
            if (Modifier.isPublic(method.getModifiers())) {
                String want = method.getName().equals("crooked") ? "double" : "int";
                dueText("what " + method.getName() + " returns", method.getReturnType().getName(), want);
            }
        }
        dueD("crooked() of begin(2, 1)", begun(2, 1).crooked(), 0.0);
        dueD("crooked() of begin(4, 3)", begun(4, 3).crooked(), 0.5);
    }

    // ---- the table

    private static void dueRight(String name, CrookedSums x) {
        int n = x.count(0);
        int all = (1 << n) - 1;
        for (int a = 0; a < n; a++) {
            int row = 0;
            int column = 0;
            for (int b = 0; b < n; b++) {
                row |= 1 << x.sum(a, b);
                column |= 1 << x.sum(b, a);
            }
            due(name + ": the tokens in row " + a, row, all);
            due(name + ": the tokens in column " + a, column, all);
        }
    }

    private static void theTable() {
        section("### The table");
        says("There are n tokens, 2 to 8 (4 at first), numbered from 0.");
        due("tokens of a new object", new CrookedSums().count(0), 4);
        for (int n = 2; n <= 8; n++) {
            CrookedSums x = begun(n, 1);
            due("tokens", x.count(0), n);
            due("the first with itself", x.sum(0, 0), 0);
            due("the last with itself, of " + n, x.sum(n - 1, n - 1), n - 2);
            due("one behind the last, of " + n, x.sum(n, 0), INVALID);
            due("one behind the last at the right, of " + n, x.sum(0, n), INVALID);
            due("one before the first", x.sum(-1, 0), INVALID);
        }
        CrookedSums x = new CrookedSums();
        due("begin(1, 1)", x.begin(1, 1), INVALID);
        due("begin(9, 1)", x.begin(9, 1), INVALID);
        due("tokens then", x.count(0), 4);

        says("The table tells for each two tokens a and b their sum a + b, a token; in each row (the sums a + 0, a + 1, ..)"
            + " and in each column (0 + b, 1 + b, ..) each token comes just once.");
        for (int n = 2; n <= 8; n++) {
            eachChangeKeepsItRight(n);
        }

        says("At first a + b is the remainder of the two numbers' sum by n.");
        CrookedSums fresh = new CrookedSums();
        due("0 + 3, not yet around", fresh.sum(0, 3), 3);
        due("1 + 3, just around", fresh.sum(1, 3), 0);
        due("3 + 1, just around", fresh.sum(3, 1), 0);
        due("3 + 3, the farthest around", fresh.sum(3, 3), 2);
        dueTable("new", fresh, Z4);
    }

    private static void eachChangeKeepsItRight(int n) {
        CrookedSums x = begun(n, n == 7 ? 3 : n - 1);
        dueRight("begin of " + n, x);
        x.rows(0, n - 1);
        x.columns(n - 1, 0);
        x.names(0, n - 1);
        dueRight("exchanges of " + n, x);
        if (x.best(0) >= 0) {
            x.swap(x.best(0), x.best(1), x.best(2), x.best(3));
            dueRight("swap of " + n, x);
        }
    }

    // ---- changes of the table

    /** The table is 01234/23401/40123/12340/34012 before: its rows and columns tell different things. */
    private static void exchange(OfTwo call, String firstAndLast, String sideBySide) {
        int[][] pairs = {{0, 4}, {4, 0}, {2, 3}, {3, 2}};
        for (int i = 0; i < pairs.length; i++) {
            CrookedSums x = begun(5, 2);
            due("the exchange of " + pairs[i][0] + " and " + pairs[i][1], call.of(x, pairs[i][0], pairs[i][1]), 10);
            dueTable("the exchange of " + pairs[i][0] + " and " + pairs[i][1], x, i < 2 ? firstAndLast : sideBySide);
        }
    }

    private static void changesOfTheTable() {
        section("### Changes of the table");
        says("To exchange rows a and b: all sums a + x and b + x change places.");
        exchange((x, a, b) -> x.rows(a, b), "34012/23401/40123/12340/01234", "01234/23401/12340/40123/34012");
        says("To exchange columns a and b: all sums x + a and x + b.");
        exchange((x, a, b) -> x.columns(a, b), "41230/13402/30124/02341/24013", "01324/23041/40213/12430/34102");
        says("To exchange names a and b: where the table had the sum a it has b, and the other way round"
            + " (rows and columns stay).");
        exchange((x, a, b) -> x.names(a, b), "41230/23041/04123/12304/30412", "01324/32401/40132/13240/24013");
        littleSquares();
    }

    private static void littleSquares() {
        says("A little square are two rows a and b, unlike, and two columns c and d, unlike,"
            + " with a + c the same as b + d, and a + d the same as b + c.");
        CrookedSums x = new CrookedSums();
        due("both the same", x.ifSwapped(0, 2, 1, 3, 0), 8);
        due("a + c alone the same as b + d", x.swap(0, 1, 1, 0), NOT_POSSIBLE);
        due("a + d alone the same as b + c", x.swap(0, 1, 0, 1), NOT_POSSIBLE);
        due("neither the same", x.swap(0, 1, 0, 2), NOT_POSSIBLE);
        due("rows that are like", x.swap(1, 1, 1, 3), INVALID);
        due("columns that are like", x.swap(0, 2, 3, 3), INVALID);
        due("rows and columns that are like", x.swap(0, 0, 0, 0), INVALID);
        due("rows as the columns are", x.ifSwapped(1, 3, 1, 3, 1), 64);
        due("the last ones of 8", begun(8, 1).ifSwapped(3, 7, 3, 7, 1), 448);
        due("the first and last ones of 2", begun(2, 1).swap(0, 1, 0, 1), 1000);
        due("little squares of 2", begun(2, 1).count(9), 1);
        for (int n = 3; n <= 7; n += 2) {
            due("little squares of begin(" + n + ", 1)", begun(n, 1).count(9), 0);
        }
        due("little squares where all are", loaded(8, XOR8).count(9), 112);

        says("To swap it: a + c and a + d change places, and so do b + c and b + d.");
        int[][] same = {{0, 2, 1, 3}, {2, 0, 1, 3}, {0, 2, 3, 1}, {2, 0, 3, 1}};
        for (int[] s : same) {
            CrookedSums y = new CrookedSums();
            y.swap(s[0], s[1], s[2], s[3]);
            dueTable("swap in each order", y, "0321/1230/2103/3012");
        }
        CrookedSums last = loaded(8, XOR8);
        last.swap(0, 7, 0, 7);
        dueTable("swap of the corners", last,
            "71234560/10325476/23016745/32107654/45670123/54761032/67452301/06543217");
    }

    // ---- returns

    private static void returns() {
        section("### Returns");
        says("The left return of a token s under a token a is the least number of times, 1 or more, behind which s comes"
            + " again, if a is added at the left again and again: a + s, a + (a + s), and so on.");
        for (int n = 2; n <= 8; n++) {
            CrookedSums x = begun(n, 1);
            due("at once, not behind no time at all", x.returns(0, 0, true), 1);
            due("at once, the last one", x.returns(n - 1, 0, true), 1);
            due("behind all " + n, x.returns(n - 1, n - 1, true), n);
        }
        CrookedSums x = begun(8, 1);
        due("behind 2, though behind 4 and 8 too", x.returns(1, 4, true), 2);
        due("behind 4, though behind 8 too", x.returns(1, 2, true), 4);
        CrookedSums left = withFirstRow(1, 2, 0, 4, 5, 6, 7, 3);
        due("in the round of 3", left.returns(2, 0, true), 3);
        due("in the round of 5", left.returns(7, 0, true), 5);
        due("at the other side", left.returns(2, 0, false), 8);

        says("The right return likewise: s + a, (s + a) + a, and so on.");
        CrookedSums right = begun(5, 2);
        due("1, 3, 2, 0, 1", right.returns(1, 1, false), 4);
        due("1, 4 at the left", right.returns(1, 1, true), 5);
        due("1 + 4 is 1", right.returns(1, 4, false), 1);
        due("1 + 4 at the left", right.returns(1, 4, true), 5);
        due("at once, not behind no time at all", right.returns(0, 0, false), 1);
        due("behind all eight", begun(8, 1).returns(3, 5, false), 8);
    }

    // ---- brackets

    private static int allWays(CrookedSums x, int way) {
        int all = 0;
        for (int token = 0; token < x.count(0); token++) {
            all += x.ways(token, way);
        }
        return all;
    }

    private static void brackets() {
        section("### Brackets");
        says("A row of tokens, 1 to 7, can be summed with brackets in several ways: a row of one token is that token;"
            + " a longer one is cut into two rows, each is summed in one of its ways,"
            + " and the former sum is added to the latter one.");
        int[] want = {1, 1, 2, 5, 14, 42, 132};
        for (int length = 1; length <= 7; length++) {
            for (int way = 0; way <= 1; way++) {
                CrookedSums x = begun(7, 3);
                type(x, "1362541".substring(0, length));
                due("all ways of " + length + ", told in way " + way, allWays(x, way), want[length - 1]);
            }
        }
        CrookedSums x = begun(7, 3);
        for (int way = 0; way <= 1; way++) {
            due("ways of no token", x.ways(0, way), NOT_POSSIBLE);
            type(x, "00000000");
            due("ways of eight", x.ways(0, way), NOT_POSSIBLE);
            type(x, "6");
            due("one token is itself", x.ways(6, way), 1);
            due("one token is no other", x.ways(0, way), 0);
            type(x, "12");
            due("1 + 2, the former added to the latter", x.ways(5, way), 1);
            due("not 2 + 1", x.ways(0, way), 0);
            x.clear();
        }

        says("Each way is a way of its own, also if the sums are the same.");
        CrookedSums group = begun(8, 1);
        for (int way = 0; way <= 1; way++) {
            type(group, "111");
            due("two ways, the same sum", group.ways(3, way), 2);
            type(group, "11111");
            due("fourteen ways, the same sum", group.ways(5, way), 14);
        }

        says("(A row of seven tokens has 132 ways.)");
        type(group, "7777777");
        due("132 by the parts", group.ways(1, 0), 132);
        due("132 one by one", group.ways(1, 1), 132);
    }

    // ---- words about tokens

    private static void wordsAboutTokens() {
        section("### Words about tokens");
        says("Two tokens a and b commute, if a + b is b + a.");
        due("each with itself alone", begun(5, 2).count(1), 5);
        due("each with itself alone, the last", begun(5, 2).token(4, 0), 1);
        due("all with all", begun(5, 1).count(1), 25);
        due("two and two", begun(4, 3).count(1), 8);

        says("Three tokens a, b and c associate, if (a + b) + c is a + (b + c).");
        due("triples with 0 first alone", begun(5, 2).count(2), 25);
        due("0 as the first", begun(5, 2).token(0, 1), 25);
        due("4 as the first", begun(5, 2).token(4, 1), 0);
        due("all triples", begun(8, 1).count(2), 512);

        says("A token e changes nothing at the left, if e + x is x for all tokens x; at the right, if x + e is x for all x.");
        CrookedSums almost = loaded(4, "0132/1023/2310/3201");
        due("0 + x is x but for the last two", almost.token(0, 2), 0);
        due("none at the left", almost.count(3), NOT_FOUND);
        due("x + 0 is x for all", almost.token(0, 3), 1);
        due("0 at the right", almost.count(4), 0);
        CrookedSums other = loaded(4, "0123/1032/3210/2301");
        due("0 + x is x for all", other.token(0, 2), 1);
        due("0 at the left", other.count(3), 0);
        due("x + 0 is x but for the last two", other.token(0, 3), 0);
        due("none at the right", other.count(4), NOT_FOUND);
        CrookedSums atEnd = loaded(3, "120/201/012");
        due("the last one at the left", atEnd.count(3), 2);
        due("the last one at the right", atEnd.count(4), 2);
        rings();
    }

    private static void rings() {
        says("A ring is a set of tokens, not empty, with the sum of each two of its tokens (also of one with itself) in it.");
        due("the least ring is not the empty set", new CrookedSums().ringAt(0), 1);
        due("rings without the empty set", new CrookedSums().count(6), 3);
        due("all tokens are a ring", new CrookedSums().ringAt(2), 15);
        // In each set of two the sums of the two unlike tokens stay inside, and a token with itself comes out.
        CrookedSums itself = loaded(3, "210/102/021");
        due("one with itself comes out: rings", itself.count(6), 1);
        due("one with itself comes out: the ring", itself.ringAt(0), 7);
        // 0 + 1 stays inside 0 and 1, and 1 + 0 comes out; in the other table the other way round.
        due("b + a comes out", begun(3, 2).count(6), 2);
        due("a + b comes out", loaded(3, "021/102/210").count(6), 2);

        says("The ring of some seeds is the least ring that has them all.");
        CrookedSums x = begun(8, 1);
        due("a ring grows no more", x.ring(85), 85);
        due("one that is its own ring", x.ring(1), 1);
        due("of the last token, all", x.ring(128), 255);
        due("it has each seed", x.ring(17 | 4), 85);
        due("behind several rounds", x.ring(2), 255);

        says("The fewest seeds are the least number of seeds whose ring has all tokens.");
        due("one of two tokens", begun(2, 1).count(7), 1);
        due("one of eight", x.count(7), 1);
        due("two of four", loaded(4, KLEIN).count(7), 2);
        due("three of eight", loaded(8, XOR8).count(7), 3);
        CrookedSums six = begun(6, 1);
        six.rows(1, 4);
        six.columns(1, 4);
        six.names(1, 4);
        due("one seed rather than two of lesser bits", six.count(7), 1);
    }

    // ---- texts

    private static void dueFault(int n, int way, String text, int want) {
        CrookedSums x = begun(n, 1);
        type(x, text);
        due("fault(" + way + ") of " + text + " with " + n + " tokens", x.fault(way), want);
    }

    /** Behind the text each character that is none of the right ones is wrong, at its place. */
    private static void dueRightSigns(int n, int way, String text, String right) {
        for (char sign = 33; sign <= 126; sign++) {
            CrookedSums x = begun(n, 1);
            type(x, text + sign);
            int fault = x.fault(way);
            boolean taken = fault == NOT_FOUND || fault > text.length();
            due("whether fault(" + way + ") takes " + sign + " behind " + text + " with " + n, taken ? 1 : 0,
                right.indexOf(sign) >= 0 ? 1 : 0);
            if (!taken) {
                due("fault(" + way + ") of " + text + sign + " with " + n, fault, text.length());
            }
        }
    }

    private static String digits(int n) {
        return "01234567".substring(0, n);
    }

    private static void texts() {
        section("### Texts");
        says("There is a pad of at most 80 characters, initially empty.");
        CrookedSums x = new CrookedSums();
        due("the length at first", x.count(10), 0);
        due("clear at first", x.clear(), 0);
        due("the fault at first", x.fault(1), 0);
        for (int i = 1; i <= 80; i++) {
            due("append", x.append(46 + i), i);
        }
        due("the 81st", x.append(50), LIMIT);
        due("the 82nd", x.append(50), LIMIT);
        due("the length then", x.count(10), 80);

        says("It can be read in three ways.");
        int[][] ways = {{1, NOT_FOUND, NOT_FOUND}, {1, 1, NOT_FOUND}, {1, NOT_FOUND, 1}};
        String[] pads = {"1", "11", "1+1"};
        for (int i = 0; i < pads.length; i++) {
            for (int way = 0; way <= 2; way++) {
                dueFault(4, way, pads[i], ways[i][way]);
            }
            dueFault(4, -1, pads[i], INVALID);
            dueFault(4, 3, pads[i], INVALID);
        }
        tableTexts();
        sumTexts();
        rowTexts();
        faults();
    }

    private static void tableTexts() {
        says("A table: n rows with \"/\" between two, each of n digits, its sums from the left to the right");
        dueFault(3, 0, "012/120/201", NOT_FOUND);
        dueFault(3, 0, "/012/120/201", 0);
        dueFault(3, 0, "012120201", 3);
        dueFault(3, 0, "012//120/201", 4);
        dueFault(3, 0, "012+120+201", 3);
        dueFault(3, 0, "012/120", 7);
        dueFault(3, 0, "012/120/", 8);
        dueFault(3, 0, "012/120/201/", 11);
        dueFault(3, 0, "012/120/201/012", 11);
        dueFault(3, 0, "01/10", 2);
        dueFault(3, 0, "0121", 3);
        dueFault(2, 0, "01/10", NOT_FOUND);
        dueFault(2, 0, "01/10/", 5);
        dueFault(8, 0, XOR8, NOT_FOUND);
        dueFault(8, 0, XOR8 + "0", 71);
        for (int n = 2; n <= 8; n++) {
            dueRightSigns(n, 0, digits(n), "/");
        }
        dueRightSigns(2, 0, "01/10", "");
        CrookedSums x = loaded(3, "012/201/120");
        due("0 + 1 in the first row", x.sum(0, 1), 1);
        due("1 + 0 in the second row", x.sum(1, 0), 2);
        due("2 + 2, the last one", x.sum(2, 2), 0);

        says(", for the n of now");
        CrookedSums now = begun(3, 1);
        type(now, "012/120/201");
        due("right for three", now.fault(0), NOT_FOUND);
        now.begin(2, 1);
        due("wrong for two", now.fault(0), 2);
        now.begin(4, 1);
        due("wrong for four", now.fault(0), 3);
        now.undo();
        now.undo();
        due("right for three again", now.fault(0), NOT_FOUND);

        says("; a digit is one of the tokens");
        for (int n = 2; n <= 8; n++) {
            dueRightSigns(n, 0, "", digits(n));
        }

        says(", that is not yet in its row");
        dueRightSigns(4, 0, "0", "123");
        dueRightSigns(4, 0, "210", "3");
        dueRightSigns(8, 0, "0123456", "7");
        dueRightSigns(2, 0, "1", "0");

        says(", nor in its column above.");
        dueRightSigns(4, 0, "0123/", "123");
        dueRightSigns(4, 0, "0123/1032/2310/", "3");
        dueRightSigns(4, 0, "0123/1032/2301/321", "0");
        dueRightSigns(4, 0, "0123/1032/23", "01");
        dueFault(4, 0, "0123/1032/2301/2", 15);
        dueFault(4, 0, "0123/1032/2301/0", 15);
    }

    private static void sumTexts() {
        says("A sum: a token, or a sum in brackets, \"(\" sum \")\", or several of these with \"+\" between two");
        for (int n = 2; n <= 8; n += 3) {
            dueRightSigns(n, 1, "", digits(n) + "(");
            dueRightSigns(n, 1, "0", "+");
            dueRightSigns(n, 1, "(", digits(n) + "(");
            dueRightSigns(n, 1, "(0", "+)");
            dueRightSigns(n, 1, "0+", digits(n) + "(");
            dueRightSigns(n, 1, "(0)", "+");
            dueRightSigns(n, 1, "((0)", "+)");
            dueRightSigns(n, 1, "(0+1", "+)");
            dueRightSigns(n, 1, "((0))+(1)", "+");
        }
        dueFault(2, 1, "1", NOT_FOUND);
        dueFault(2, 1, "(1)", NOT_FOUND);
        dueFault(2, 1, "((1))", NOT_FOUND);
        dueFault(2, 1, "1+0", NOT_FOUND);
        dueFault(2, 1, "(1)+(0)", NOT_FOUND);
        dueFault(2, 1, "((0)+1)+((1))", NOT_FOUND);
        dueFault(2, 1, "()", 1);
        dueFault(2, 1, ")", 0);
        dueFault(2, 1, "0)", 1);
        dueFault(2, 1, "(0))", 3);

        says("; without brackets between them they are summed from the left to the right.");
        CrookedSums x = begun(7, 3);
        type(x, "1+2+3");
        due("(1 + 2) + 3", x.value(), 4);
        type(x, "1+(2+3)");
        due("1 + (2 + 3)", x.value(), 5);
        type(x, "(1+2)+3");
        due("(1 + 2) + 3 in brackets", x.value(), 4);
        type(x, "1+(2)+3");
        due("brackets round one thing", x.value(), 4);
        type(x, "6" + "+6".repeat(39));
        int sum = 6;
        for (int i = 0; i < 39; i++) {
            sum = (3 * sum + 6) % 7;
        }
        due("forty tokens", x.value(), sum);

        says("A token is a digit below n.");
        for (int n = 2; n <= 8; n++) {
            for (int way = 1; way <= 2; way++) {
                dueFault(n, way, "" + (n - 1), NOT_FOUND);
                dueFault(n, way, "" + n, 0);
                dueFault(n, way, "9", 0);
                dueFault(n, way, "/", 0);
                dueFault(n, way, ":", 0);
            }
        }
    }

    private static void rowTexts() {
        says("A row: 1 to 7 tokens, each a digit below n, one behind the other.");
        dueFault(4, 2, "", 0);
        for (int length = 1; length <= 7; length++) {
            dueFault(4, 2, "3".repeat(length), NOT_FOUND);
        }
        dueFault(4, 2, "3".repeat(8), 7);
        dueFault(4, 2, "3".repeat(80), 7);
        for (int n = 2; n <= 8; n++) {
            dueRightSigns(n, 2, "", digits(n));
            dueRightSigns(n, 2, "101010", digits(n));
            dueRightSigns(n, 2, "1010101", "");
        }
    }

    /** What the pad was read as before does not matter. */
    private static void readAnew(String former, String latter) {
        CrookedSums x = new CrookedSums();
        type(x, former);
        looksOf(x);
        x.cut(1);
        type(x, latter);
        CrookedSums fresh = new CrookedSums();
        type(fresh, latter);
        dueText("looks with the pad " + latter + " behind " + former, looksOf(x), looksOf(fresh));
    }

    private static void faults() {
        says("The fault of the pad, read in one of these ways, is the position, from 0, of the first character that is wrong");
        for (int way = 0; way <= 2; way++) {
            dueFault(4, way, "x0x", 0);
            dueFault(4, way, "1xx", 1);
        }
        dueFault(4, 0, "0123/1230/2301/301x", 18);
        dueFault(4, 0, Z4 + "xx", 19);
        dueFault(4, 1, "0+1+x+y", 4);
        dueFault(4, 2, "010x0x", 3);
        for (String former : PADS) {
            for (String latter : PADS) {
                readAnew(former, latter);
            }
        }

        says(": for a sum and a row if no pad of that kind, of any length, begins with the characters before it and this"
            + " character");
        dueFault(4, 1, "(".repeat(79), 79);
        dueFault(4, 1, "(".repeat(80), 80);
        dueFault(4, 1, "0+".repeat(40), 80);
        dueFault(4, 1, "0+".repeat(39) + "((", 80);
        dueFault(4, 1, "(".repeat(40) + "0" + ")".repeat(39), 80);
        dueFault(4, 1, "(".repeat(39) + "0" + ")".repeat(39), NOT_FOUND);
        dueFault(4, 1, "(".repeat(39) + "0" + ")".repeat(40), 79);
        dueFault(4, 1, "0+".repeat(39) + "0x", 79);
        dueFault(4, 1, "0+(".repeat(26) + "1", 79);
        dueFault(4, 2, "01230123", 7);
        dueFault(4, 2, "0123012x", 7);

        says("; for a table if it is none of those told for its place"
            + " (whether the table can be completed then does not matter)");
        dueFault(3, 0, "012/10", 6);
        for (int token = 0; token < 3; token++) {
            dueFault(3, 0, "012/10" + token, 6);
        }
        dueFault(4, 0, "0123/1032/2310/32", 17);
        dueRightSigns(4, 0, "0123/1032/2310/32", "0");

        says("; if there is none, and the pad is not complete (also if it is empty), the length of the pad.");
        for (int way = 0; way <= 2; way++) {
            dueFault(4, way, "", 0);
        }
        dueFault(4, 0, "0", 1);
        dueFault(4, 0, "0123/", 5);
        dueFault(4, 0, "0123/1230/2301/301", 18);
        dueFault(4, 1, "0+", 2);
        dueFault(4, 1, "(0", 2);
        dueFault(4, 1, "((0)", 4);
        dueFault(4, 1, "(", 1);
        CrookedSums cleared = begun(4, 1);
        type(cleared, "0+1");
        cleared.clear();
        due("empty again", cleared.fault(1), 0);
    }

    // ---- changes and errors

    private static CrookedSums begunFive(String pad) {
        CrookedSums x = new CrookedSums();
        x.save();
        x.begin(5, 2);
        type(x, pad);
        return x;
    }

    /** With a full history, whose oldest state was dropped, and a snapshot. */
    private static CrookedSums used(String pad) {
        CrookedSums x = new CrookedSums();
        x.rows(0, 1);
        x.save();
        x.columns(2, 3);
        x.names(0, 3);
        x.begin(4, 3);
        x.swap(0, 2, 1, 3);
        type(x, pad);
        return x;
    }

    private static CrookedSums fresh(String pad) {
        CrookedSums x = new CrookedSums();
        type(x, pad);
        return x;
    }

    private static CrookedSums state(int kind, String pad) {
        return kind == 0 ? fresh(pad) : kind == 1 ? used(pad) : begunFive(pad);
    }

    private static Map<String, Call> refusedCalls() {
        Map<String, Call> calls = new LinkedHashMap<>();
        calls.put("begin(1, 1)", x -> x.begin(1, 1));
        calls.put("begin(9, 1)", x -> x.begin(9, 1));
        calls.put("begin(5, 0)", x -> x.begin(5, 0));
        calls.put("begin(5, 8)", x -> x.begin(5, 8));
        calls.put("begin(6, 3)", x -> x.begin(6, 3));
        calls.put("rows(1, 1)", x -> x.rows(1, 1));
        calls.put("rows(0, 5)", x -> x.rows(0, 5));
        calls.put("rows(-1, 0)", x -> x.rows(-1, 0));
        calls.put("columns(1, 1)", x -> x.columns(1, 1));
        calls.put("columns(5, 0)", x -> x.columns(5, 0));
        calls.put("columns(0, -1)", x -> x.columns(0, -1));
        calls.put("names(1, 1)", x -> x.names(1, 1));
        calls.put("names(0, 5)", x -> x.names(0, 5));
        calls.put("names(-1, 0)", x -> x.names(-1, 0));
        calls.put("swap(0, 0, 1, 3)", x -> x.swap(0, 0, 1, 3));
        calls.put("swap(0, 2, 1, 1)", x -> x.swap(0, 2, 1, 1));
        calls.put("swap(0, 5, 1, 3)", x -> x.swap(0, 5, 1, 3));
        calls.put("swap(0, 1, 0, 1)", x -> x.swap(0, 1, 0, 1));
        calls.put("append(32)", x -> x.append(32));
        calls.put("append(127)", x -> x.append(127));
        calls.put("append(49)", x -> x.append(49));
        calls.put("load()", x -> x.load());
        calls.put("undo()", x -> x.undo());
        calls.put("restore()", x -> x.restore());
        calls.put("fault(3)", x -> x.fault(3));
        calls.put("value()", x -> x.value());
        calls.put("sum(5, 0)", x -> x.sum(5, 0));
        calls.put("between(0, 5, true)", x -> x.between(0, 5, true));
        calls.put("returns(5, 0, true)", x -> x.returns(5, 0, true));
        calls.put("token(5, 0)", x -> x.token(5, 0));
        calls.put("token(0, 9)", x -> x.token(0, 9));
        calls.put("ring(0)", x -> x.ring(0));
        calls.put("ring(32)", x -> x.ring(32));
        calls.put("ringAt(-1)", x -> x.ringAt(-1));
        calls.put("ringAt(31)", x -> x.ringAt(31));
        calls.put("count(12)", x -> x.count(12));
        calls.put("count(4)", x -> x.count(4));
        calls.put("best(0)", x -> x.best(0));
        calls.put("best(5)", x -> x.best(5));
        calls.put("step(0, 4)", x -> x.step(0, 4));
        calls.put("step(0, 0)", x -> x.step(0, 0));
        calls.put("step(2, 0)", x -> x.step(2, 0));
        calls.put("ways(0, 2)", x -> x.ways(0, 2));
        calls.put("ways(0, 0)", x -> x.ways(0, 0));
        calls.put("ways(0, 1)", x -> x.ways(0, 1));
        calls.put("sums(4)", x -> x.sums(4));
        calls.put("sums(3)", x -> x.sums(3));
        calls.put("cut(5)", x -> x.cut(5));
        calls.put("cut(0)", x -> x.cut(0));
        calls.put("ifSwapped(0, 2, 1, 3, 3)", x -> x.ifSwapped(0, 2, 1, 3, 3));
        calls.put("ifSwapped(0, 1, 0, 1, 2)", x -> x.ifSwapped(0, 1, 0, 1, 2));
        return calls;
    }

    /** Each call is made on one of two objects that are alike; if it answers as awaited, both must stay alike. */
    private static void dueUnchanged(Map<String, Call> calls, boolean refusedAlone) {
        for (Map.Entry<String, Call> call : calls.entrySet()) {
            int tried = 0;
            for (int kind = 0; kind <= 2; kind++) {
                for (String pad : PADS) {
                    CrookedSums x = state(kind, pad);
                    if (call.getValue().on(x) < 0 || !refusedAlone) {
                        tried++;
                        dueText("behind " + call.getKey() + ", state " + kind + ", pad " + pad + ": all", allOf(x),
                            allOf(state(kind, pad)));
                    }
                }
            }
            due(call.getKey() + " was tried", tried > 0 ? 1 : 0, 1);
        }
    }

    private static void changesAndErrors() {
        section("### Changes and errors");
        says("The changes are the calls of begin, rows, columns, names, swap, load and restore that return no error.");
        Call[] changes = {y -> y.begin(4, 1), y -> y.rows(0, 1), y -> y.columns(0, 1), y -> y.names(0, 1),
            y -> y.swap(0, 2, 1, 3), y -> y.load(), y -> y.restore()};
        for (int i = 0; i < changes.length; i++) {
            CrookedSums one = begun(5, 2);
            one.save();
            one.begin(4, 1);
            type(one, KLEIN);
            due("save, clear and append record nothing", one.count(11), 2);
            due("change " + i + " is refused", changes[i].on(one) < 0 ? 1 : 0, 0);
            due("states behind change " + i, one.count(11), 3);
            due("the pad behind change " + i, one.count(10), i == 5 ? 0 : 19);
            due("undo of change " + i, one.undo(), 2);
            dueTable("behind undo of change " + i, one, Z4);
            due("undo is no change", one.count(11), 2);
            due("the pad behind undo of change " + i, one.count(10), i == 5 ? 0 : 19);
            due("the snapshot behind change " + i + " and its undo", one.restore(), 5);
            changes[i].on(one);
            due("the snapshot behind change " + i, one.restore(), 5);
            dueTable("the snapshot behind change " + i, one, "01234/23401/40123/12340/34012");
        }
        CrookedSums x = new CrookedSums();
        due("begin that is refused", x.begin(4, 2), INVALID);
        due("rows that is refused", x.rows(0, 4), INVALID);
        due("swap that is refused", x.swap(0, 1, 0, 1), NOT_POSSIBLE);
        x.append(48);
        due("load that is refused", x.load(), NOT_POSSIBLE);
        due("restore that is refused", new CrookedSums().restore(), NOT_POSSIBLE);
        due("states behind refused changes", x.count(11), 0);
        history();
        errors();
        constants();
    }

    private static void history() {
        says("A history of at most 4 states is kept");
        CrookedSums x = new CrookedSums();
        due("states at first", x.count(11), 0);
        for (int i = 1; i <= 9; i++) {
            x.rows(0, 1);
            due("states behind " + i + " changes", x.count(11), Math.min(i, 4));
        }
        for (int i = 3; i >= 0; i--) {
            due("undo", x.undo(), i);
        }
        due("the fifth undo", x.undo(), NOT_POSSIBLE);

        says(": each change records everything before it but the pad and the snapshot");
        CrookedSums y = begun(5, 2);
        y.save();
        type(y, "123");
        y.begin(3, 1);
        y.save();
        type(y, "0+1+2");
        due("undo", y.undo(), 1);
        dueTable("the table before it", y, "01234/23401/40123/12340/34012");
        due("the pad of now", y.count(10), 5);
        due("the pad of now, its sum", y.value(), 4);
        due("the snapshot of now", y.restore(), 3);

        says(" (also if nothing is different then)");
        CrookedSums same = new CrookedSums();
        same.save();
        due("begin of the same", same.begin(4, 1), 64);
        due("its state", same.count(11), 1);
        type(same, Z4);
        due("load of the same", same.load(), 0);
        due("its state", same.count(11), 2);
        due("restore of the same", same.restore(), 4);
        due("its state", same.count(11), 3);
        same.begin(4, 5);
        same.rows(1, 2);
        due("the oldest was dropped for one that is the same", same.count(11), 4);
        due("undo", same.undo(), 3);
        due("undo of nothing different", same.undo(), 2);
        dueTable("undo of nothing different", same, Z4);

        says(", and if there are 5 states then, the oldest one is dropped.");
        droppingWithUndo();
    }

    /** Now and then some undos among many changes: the states that are left are those of a plain queue. */
    private static void droppingWithUndo() {
        CrookedSums x = new CrookedSums();
        Deque<Integer> before = new ArrayDeque<>();
        int now = 4;
        int[] plan = {5, -2, 3, -1, 4, -4, 6, -3, 1, -2, 9, -5};
        int next = 0;
        for (int moves : plan) {
            for (int i = 0; i < moves; i++) {
                before.addLast(now);
                if (before.size() == 5) {
                    before.removeFirst();
                }
                now = 2 + next++ % 7;
                x.begin(now, 1);
                due("states", x.count(11), before.size());
            }
            for (int i = 0; i > moves; i--) {
                boolean none = before.isEmpty();
                now = none ? now : before.removeLast();
                due("undo", x.undo(), none ? NOT_POSSIBLE : before.size());
                due("tokens then", x.count(0), now);
            }
        }
    }

    private static void errors() {
        says("If several errors apply to a call, INVALID_ARGUMENT is returned rather than NOT_POSSIBLE");
        CrookedSums x = new CrookedSums();
        type(x, "x");
        due("swap of no square in a row that is none", x.swap(0, 4, 0, 1), INVALID);
        due("swap of no square in one column", x.swap(0, 1, 1, 1), INVALID);
        due("ifSwapped of no square, what 3", x.ifSwapped(0, 1, 0, 1, 3), INVALID);
        due("ifSwapped of no square, what -1", x.ifSwapped(0, 1, 0, 1, -1), INVALID);
        due("step -1 of a fault", x.step(-1, 0), INVALID);
        due("step of a fault, what 4", x.step(0, 4), INVALID);
        due("ways of a fault, token 4", x.ways(4, 0), INVALID);
        due("ways of a fault, way 2", x.ways(0, 2), INVALID);
        due("sums of a fault, what 4", x.sums(4), INVALID);
        due("cut of a fault, token 4", x.cut(4), INVALID);

        says(", NOT_POSSIBLE rather than LIMIT_REACHED, and LIMIT_REACHED rather than NOT_FOUND.");
        due("step 9 of a fault", x.step(9, 0), NOT_POSSIBLE);
        due("cut of a fault that no way comes to", x.cut(0), NOT_POSSIBLE);
        type(x, "0".repeat(80));
        due("append of a wrong character to the full pad", x.append(32), INVALID);
        due("append of another one", x.append(127), INVALID);
        due("append of a right one", x.append(126), LIMIT);
        due("best(5) without a square", begun(5, 1).best(5), INVALID);
        type(x, "1+2");
        due("step 1 with what 4", x.step(1, 4), INVALID);

        says("If there is no token of a certain number, this is INVALID_ARGUMENT.");
        for (int n = 2; n <= 8; n++) {
            dueNoToken(begun(n, 1), n);
            dueNoToken(begun(n, 1), -1);
            dueNoToken(begun(n, 1), 1 << 30);
        }
        CrookedSums less = begun(8, 1);
        due("a token that is there", less.sum(7, 7), 6);
        less.begin(3, 1);
        dueNoToken(less, 7);
        dueNoToken(less, 3);

        says("A call that returns an error changes nothing (the pad stays, too).");
        dueUnchanged(refusedCalls(), true);

        says("Sets of tokens are told as bits: the token t counts 2 to the power of t.");
        CrookedSums alone = loaded(7, "0415263/4152630/1526304/5263041/2630415/6304152/3041526");
        for (int t = 0; t < 7; t++) {
            due("the ring of a token that is alone", alone.token(t, 5), 1 << t);
            type(alone, "" + t);
            due("the sums of one token", alone.sums(0), 1 << t);
        }
        due("the last token and the first", loaded(8, XOR8).ring(128), 129);
        due("the third token's seeds", begun(8, 1).ring(4), 1 + 4 + 16 + 64);
    }

    private static void dueNoToken(CrookedSums x, int none) {
        String name = " with the token " + none + " of " + x.count(0);
        due("rows" + name, x.rows(none, 0), INVALID);
        due("rows, second," + name, x.rows(0, none), INVALID);
        due("columns" + name, x.columns(none, 0), INVALID);
        due("columns, second," + name, x.columns(0, none), INVALID);
        due("names" + name, x.names(none, 0), INVALID);
        due("names, second," + name, x.names(0, none), INVALID);
        int[][] places = {{none, 0, 0, 1}, {0, none, 0, 1}, {0, 1, none, 0}, {0, 1, 0, none}};
        for (int[] p : places) {
            due("swap" + name, x.swap(p[0], p[1], p[2], p[3]), INVALID);
            due("ifSwapped" + name, x.ifSwapped(p[0], p[1], p[2], p[3], 0), INVALID);
        }
        due("sum" + name, x.sum(none, 0), INVALID);
        due("sum, second," + name, x.sum(0, none), INVALID);
        for (boolean atLeft : new boolean[] {true, false}) {
            due("between" + name, x.between(none, 0, atLeft), INVALID);
            due("between, second," + name, x.between(0, none, atLeft), INVALID);
            due("returns" + name, x.returns(none, 0, atLeft), INVALID);
            due("returns, second," + name, x.returns(0, none, atLeft), INVALID);
        }
        type(x, "1");
        for (int what = 0; what <= 8; what++) {
            due("token" + name, x.token(none, what), INVALID);
        }
        due("ways" + name, x.ways(none, 0), INVALID);
        due("ways, one by one," + name, x.ways(none, 1), INVALID);
        due("cut" + name, x.cut(none), INVALID);
    }

    private static void constants() {
        says("The constants: `INVALID_ARGUMENT = -1`: An argument is out of its range, or there is no such token.");
        due("INVALID_ARGUMENT", CrookedSums.INVALID_ARGUMENT, -1);
        due("an argument out of its range", new CrookedSums().count(12), -1);
        due("no such token", new CrookedSums().sum(4, 0), -1);
        says("`NOT_POSSIBLE = -2`: The call is not possible in the present state.");
        due("NOT_POSSIBLE", CrookedSums.NOT_POSSIBLE, -2);
        due("undo without a change", new CrookedSums().undo(), -2);
        says("`LIMIT_REACHED = -3`: A fixed limit has been reached.");
        due("LIMIT_REACHED", CrookedSums.LIMIT_REACHED, -3);
        due("the 81st character", type(new CrookedSums(), "0".repeat(81)), -3);
        says("`NOT_FOUND = -4`: There is no such value.");
        due("NOT_FOUND", CrookedSums.NOT_FOUND, -4);
        due("a ring too many", new CrookedSums().ringAt(3), -4);
        groups();
    }

    private static Map<String, Call> looks() {
        Map<String, Call> calls = new LinkedHashMap<>();
        calls.put("sum", x -> x.sum(1, 2));
        calls.put("between", x -> x.between(1, 2, true) + x.between(1, 2, false));
        calls.put("returns", x -> x.returns(1, 2, true) + x.returns(1, 2, false));
        for (int what = 0; what <= 8; what++) {
            int asked = what;
            calls.put("token " + what, x -> x.token(3, asked));
        }
        calls.put("ring", x -> x.ring(6));
        calls.put("ringAt", x -> x.ringAt(1));
        for (int what = 0; what <= 11; what++) {
            int asked = what;
            calls.put("count " + what, x -> x.count(asked));
        }
        calls.put("crooked", x -> (int) x.crooked());
        return calls;
    }

    private static void groups() {
        onlyNames("Ahead of the calls `begin`, `rows`, `columns`, `names`, `swap` the interface says: ---- the table.");
        onlyNames("Ahead of the calls `append`, `clear`, `fault`, `load`, `value`, `step` the interface says: ---- texts.");
        onlyNames("Ahead of the calls `undo`, `save`, `restore` the interface says: ---- history, snapshot.");
        says("Ahead of the calls `sum`, `between`, `returns`, `token`, `ring`, `ringAt`, `count`, `crooked` the interface"
            + " says: ---- looks; nothing is changed.");
        dueUnchanged(looks(), false);
        says("Ahead of the calls `ways`, `sums`, `cut` the interface says: ---- brackets; nothing is changed.");
        Map<String, Call> brackets = new LinkedHashMap<>();
        brackets.put("ways", x -> x.ways(1, 0) + x.ways(2, 1));
        brackets.put("sums", x -> x.sums(0) + x.sums(1) + x.sums(2) + x.sums(3));
        brackets.put("cut", x -> x.cut(1) + x.cut(2));
        dueUnchanged(brackets, false);
        says("Ahead of the calls `ifSwapped`, `best` the interface says: ---- what would be; nothing is changed.");
        Map<String, Call> wouldBe = new LinkedHashMap<>();
        wouldBe.put("ifSwapped", x -> x.ifSwapped(0, 2, 1, 3, 0) + x.ifSwapped(0, 2, 1, 3, 1) + x.ifSwapped(0, 2, 1, 3, 2));
        wouldBe.put("best", x -> x.best(0) + x.best(1) + x.best(2) + x.best(3) + x.best(4));
        dueUnchanged(wouldBe, false);
    }

    public static void main(String[] args) throws IOException {
        open();
        useAndNumbers();
        theTable();
        changesOfTheTable();
        returns();
        brackets();
        wordsAboutTokens();
        texts();
        changesAndErrors();
        dueAllTold("## Terms", "## Promise 1: A new object");
        tellAndExit();
    }
}
