import java.io.IOException;

// Each sentence of the promises, "## Promise 1" to "## Promise 28", with the edges that it names.
public final class PromiseSentences extends Sentences {
    private static final String Z4 = "0123/1230/2301/3012";

    private static int divisor(int a, int b) {
        return b == 0 ? a : divisor(b, a % b);
    }

    private static CrookedSums typed(int tokens, int crook, String text) {
        CrookedSums x = begun(tokens, crook);
        type(x, text);
        return x;
    }

    private static int[] codesThatAreNone() {
        return new int[] {Integer.MIN_VALUE, -33, -1, 0, 31, 32, 127, 128, 160, 256 + 48, 65536 + 48, Integer.MAX_VALUE};
    }

    // ---- the table

    private static void promise1() {
        section("## Promise 1: A new object");
        says("`CrookedSums()`: Creates a table of 4 tokens.");
        CrookedSums x = new CrookedSums();
        due("tokens", x.count(0), 4);
        dueTable("new", x, Z4);
        due("the pad is empty", x.count(10), 0);
        due("no state", x.count(11), 0);
        due("nothing to undo", x.undo(), NOT_POSSIBLE);
        due("no snapshot", x.restore(), NOT_POSSIBLE);
        CrookedSums other = new CrookedSums();
        x.begin(5, 2);
        x.append(48);
        x.save();
        dueText("another object", allOf(other), allOf(new CrookedSums()));
    }

    /** A table that a larger one was before answers as one that was none: its rows and columns behind are no more. */
    private static void nothingIsLeft(int tokens) {
        for (int kind = 0; kind <= 3; kind++) {
            CrookedSums x = loaded(8, XOR8);
            if (kind < 2) {
                x.rows(kind, tokens);
            } else {
                x.columns(kind - 2, tokens);
            }
            for (int crook = 1; crook < tokens; crook++) {
                if (divisor(tokens, crook) == 1) {
                    dueText("behind eight tokens, " + tokens + " by " + crook, shortLooks(x, tokens, crook),
                        shortLooks(begun(tokens, crook), tokens, crook));
                }
            }
        }
    }

    private static String shortLooks(CrookedSums x, int tokens, int crook) {
        x.begin(tokens, crook);
        x.columns(0, 1);
        StringBuilder text = new StringBuilder();
        for (int what = 0; what <= 10; what++) {
            text.append(" count ").append(x.count(what));
        }
        for (int what = 0; what <= 8; what++) {
            text.append(" token ").append(x.token(0, what)).append(' ').append(x.token(tokens - 1, what));
        }
        return text.append(" best ").append(x.best(1)).append(x.best(3)).append(x.best(4)).toString();
    }

    private static void promise2() {
        section("## Promise 2: begin");
        says("`int begin(int tokens, int crook)`: Begins a table anew: a + b is the remainder of crook * a + b by tokens.");
        CrookedSums eight = begun(8, 7);
        due("7 * 7 + 7, the farthest around", eight.sum(7, 7), 0);
        due("7 * 1 + 0, not yet around", eight.sum(1, 0), 7);
        due("7 * 1 + 1, just around", eight.sum(1, 1), 0);
        CrookedSums anew = loaded(4, KLEIN);
        anew.begin(4, 3);
        dueTable("anew", anew, "0123/3012/2301/1230");
        due("anew, as before", anew.begin(4, 3), 32);
        dueTable("anew, as before", anew, "0123/3012/2301/1230");
        for (int tokens = 2; tokens <= 7; tokens++) {
            nothingIsLeft(tokens);
        }

        says("- `tokens`: 2 to 8: how many tokens there are then");
        for (int tokens = 2; tokens <= 8; tokens++) {
            due("tokens then", begun(tokens, 1).count(0), tokens);
        }
        for (int none : new int[] {1, 0, -1, -2, 9, 10, 258, 65538, Integer.MIN_VALUE, Integer.MAX_VALUE}) {
            CrookedSums x = new CrookedSums();
            due("begin(" + none + ", 1)", x.begin(none, 1), INVALID);
            dueText("behind begin(" + none + ", 1)", allOf(x), allOf(new CrookedSums()));
        }

        says("- `crook`: 1 to 7, without a common divisor above 1 with tokens");
        for (int tokens = 2; tokens <= 8; tokens++) {
            for (int crook = -1; crook <= 9; crook++) {
                boolean right = crook >= 1 && crook <= 7 && divisor(tokens, crook) == 1;
                due("whether begin(" + tokens + ", " + crook + ") is right",
                    new CrookedSums().begin(tokens, crook) == INVALID ? 0 : 1, right ? 1 : 0);
            }
            for (int none : FAR) {
                due("begin(" + tokens + ", " + none + ")", new CrookedSums().begin(tokens, none), INVALID);
            }
        }

        says("Returns how many triples of tokens associate then; INVALID_ARGUMENT.");
        for (int tokens = 2; tokens <= 8; tokens++) {
            for (int crook = 1; crook <= 7; crook++) {
                if (divisor(tokens, crook) == 1) {
                    // (a + b) + c is a + (b + c) where crook * (crook - 1) * a has no remainder.
                    int want = divisor(tokens, crook - 1) * tokens * tokens;
                    due("begin(" + tokens + ", " + crook + ")", new CrookedSums().begin(tokens, crook), want);
                }
            }
        }
        due("both arguments out of their ranges", new CrookedSums().begin(9, 8), INVALID);
    }

    /** The parameters and the answer of rows, columns and names have the same edges. */
    private static void exchanges(OfTwo exchange) {
        says("- `a`: a token");
        twoUnlikeTokens(exchange, true);
        says("- `b`: another token");
        twoUnlikeTokens(exchange, false);
        says("Returns how many sums are different then; INVALID_ARGUMENT (also if both are the same).");
        for (int n = 2; n <= 8; n++) {
            CrookedSums x = begun(n, 1);
            due("both rows, columns or names differ all along, " + n, exchange.of(x, 0, n - 1), 2 * n);
            for (int token = 0; token < n; token++) {
                due("both are " + token, exchange.of(x, token, token), INVALID);
            }
            due("the states of begin and of one exchange", x.count(11), 2);
            due("both are the same, and no token", exchange.of(x, n, n), INVALID);
        }
    }

    private static void twoUnlikeTokens(OfTwo exchange, boolean first) {
        for (int n = 2; n <= 8; n++) {
            for (int token : new int[] {0, n - 1, n, n + 1, -1, -n, Integer.MIN_VALUE, Integer.MAX_VALUE}) {
                boolean there = token >= 0 && token < n;
                int other = token == 0 ? 1 : 0;
                CrookedSums x = begun(n, 1);
                int got = first ? exchange.of(x, token, other) : exchange.of(x, other, token);
                due("the token " + token + " of " + n, got, there ? 2 * n : INVALID);
                due("states then", x.count(11), there ? 2 : 1);
            }
        }
    }

    private static void promises3To5() {
        section("## Promise 3: rows");
        says("`int rows(int a, int b)`: Exchanges two rows.");
        CrookedSums x = loaded(3, "210/102/021");
        x.rows(2, 0);
        dueTable("rows", x, "021/102/210");
        exchanges((y, a, b) -> y.rows(a, b));

        section("## Promise 4: columns");
        says("`int columns(int a, int b)`: Exchanges two columns.");
        x = loaded(3, "012/201/120");
        x.columns(2, 0);
        dueTable("columns", x, "210/102/021");
        exchanges((y, a, b) -> y.columns(a, b));

        section("## Promise 5: names");
        says("`int names(int a, int b)`: Exchanges two names.");
        x = loaded(3, "012/201/120");
        x.names(2, 0);
        dueTable("names", x, "210/021/102");
        exchanges((y, a, b) -> y.names(a, b));
    }

    private interface OfFour {
        int of(CrookedSums x, int a, int b, int c, int d);
    }

    /** Each place of a little square takes the last token, but none behind it nor one before the first. */
    private static void tokensOfSquare(OfFour call, String... quotes) {
        for (int place = 0; place < 4; place++) {
            says(quotes[place]);
            for (int n = 4; n <= 8; n += 2) {
                for (int token : new int[] {n, n + 1, -1, -n, Integer.MIN_VALUE, Integer.MAX_VALUE}) {
                    int[] s = {0, n / 2, 1, 1 + n / 2};
                    s[place] = token;
                    due("the token " + token + " of " + n, call.of(begun(n, 1), s[0], s[1], s[2], s[3]), INVALID);
                }
                int[] last = {n - 1, n - 1, n - 1, n - 1};
                last[place ^ 1] = n / 2 - 1;
                last[place < 2 ? 2 : 0] = 0;
                last[place < 2 ? 3 : 1] = n / 2;
                due("the last token of " + n, call.of(begun(n, 1), last[0], last[1], last[2], last[3]) > 0 ? 1 : 0, 1);
            }
        }
    }

    private static void promise6() {
        section("## Promise 6: swap");
        says("`int swap(int a, int b, int c, int d)`: Swaps a little square.");
        CrookedSums x = begun(8, 1);
        due("swap(3, 7, 2, 6)", x.swap(3, 7, 2, 6), 1000 + 432 - 512);
        dueTable("swap(3, 7, 2, 6)", x, "01234567/12345670/23456701/34167052/45670123/56701234/67012345/70523416");
        tokensOfSquare((y, a, b, c, d) -> y.swap(a, b, c, d), "- `a`: one row", "- `b`: the other row",
            "- `c`: one column", "- `d`: the other column");

        says("Returns how many more triples associate then than before, and 1000");
        CrookedSums y = new CrookedSums();
        due("32 fewer", y.swap(0, 2, 1, 3), 968);
        due("32 more", y.swap(0, 2, 1, 3), 1032);
        due("as many", y.swap(1, 3, 1, 3), 1000);
        due("as many of two tokens", begun(2, 1).swap(0, 1, 0, 1), 1000);

        says("; INVALID_ARGUMENT (also if both rows, or both columns, are the same)");
        for (int token = 0; token < 4; token++) {
            due("both rows are " + token, y.swap(token, token, 0, 1), INVALID);
            due("both columns are " + token, y.swap(0, 1, token, token), INVALID);
            due("all are " + token, y.swap(token, token, token, token), INVALID);
        }
        due("states then", y.count(11), 3);

        says("; NOT_POSSIBLE if they make no little square.");
        CrookedSums z = new CrookedSums();
        due("a + c alone the same as b + d", z.swap(0, 1, 1, 0), NOT_POSSIBLE);
        due("a + d alone the same as b + c", z.swap(0, 1, 0, 1), NOT_POSSIBLE);
        due("neither", z.swap(0, 2, 0, 1), NOT_POSSIBLE);
        due("without a little square at all", begun(3, 1).swap(0, 1, 0, 1), NOT_POSSIBLE);
        due("states then", z.count(11), 0);
        dueTable("behind swaps that are refused", z, Z4);
    }

    // ---- texts

    private static void promises7And8() {
        section("## Promise 7: append");
        says("`int append(int code)`: Appends a character to the pad.");
        CrookedSums x = begun(7, 3);
        x.append('1');
        x.append('2');
        due("the former one comes first", x.sums(1), 5);
        says("- `code`: the character code, 33 to 126");
        for (int code = 33; code <= 126; code++) {
            due("append(" + code + ")", new CrookedSums().append(code), 1);
        }
        for (int none : codesThatAreNone()) {
            CrookedSums y = typed(4, 1, "12");
            due("append(" + none + ")", y.append(none), INVALID);
            due("the length then", y.count(10), 2);
        }
        says("Returns the length of the pad then; INVALID_ARGUMENT; LIMIT_REACHED if it has 80 characters.");
        CrookedSums z = new CrookedSums();
        for (int i = 1; i <= 80; i++) {
            due("append, the length then", z.append(i == 80 ? '1' : '('), i);
        }
        due("append, 80 characters", z.append('0'), LIMIT);
        due("append, 80 characters, not a right one", z.append(32), INVALID);
        due("the length then", z.count(10), 80);
        due("the last one is not another", z.fault(1), 80);
        due("append is no change", z.count(11), 0);
        z.clear();
        due("append to the pad that was full", z.append('0'), 1);

        section("## Promise 8: clear");
        says("`int clear()`: Empties the pad.");
        CrookedSums full = typed(4, 1, "1".repeat(80));
        full.clear();
        due("the length of what was full", full.count(10), 0);
        due("its fault", full.fault(2), 0);
        full.append('2');
        due("the sum of what came later", full.value(), 2);
        says("Returns the length that it had.");
        due("clear of one", full.clear(), 1);
        due("clear of none", full.clear(), 0);
        due("clear of 80", typed(4, 1, "1".repeat(80)).clear(), 80);
        due("clear is no change", full.count(11), 1);
    }

    private static void promise9() {
        section("## Promise 9: fault");
        says("`int fault(int way)`: Returns the fault of the pad.");
        due("at the first character", typed(4, 1, "x").fault(1), 0);
        due("at the 80th character", typed(4, 1, "0" + "+1".repeat(39) + "x").fault(1), 79);
        due("behind 80 characters", typed(4, 1, "(".repeat(80)).fault(1), 80);
        says("- `way`: 0 if it is read as a table, 1 as a sum, 2 as a row");
        CrookedSums x = typed(4, 1, "12");
        due("as a table", x.fault(0), 2);
        due("as a sum", x.fault(1), 1);
        due("as a row", x.fault(2), NOT_FOUND);
        says("Returns the fault; INVALID_ARGUMENT; NOT_FOUND if it has none.");
        for (int none : new int[] {-1, 3, 4, -2, 256, 258, Integer.MIN_VALUE, Integer.MAX_VALUE}) {
            due("fault(" + none + ")", x.fault(none), INVALID);
            due("fault(" + none + ") of the empty pad", new CrookedSums().fault(none), INVALID);
        }
        due("a table without one", typed(4, 1, KLEIN).fault(0), NOT_FOUND);
        due("a sum without one", typed(4, 1, "0").fault(1), NOT_FOUND);
        due("a row without one", typed(4, 1, "3210123").fault(2), NOT_FOUND);
        CrookedSums y = typed(4, 1, KLEIN);
        y.fault(0);
        dueTable("fault makes nothing the table", y, Z4);
        due("fault leaves the pad", y.count(10), 19);
        due("fault is no change", y.count(11), 1);
    }

    private static void promise10() {
        section("## Promise 10: load");
        says("`int load()`: Makes the table of the pad the table, and empties the pad.");
        CrookedSums x = typed(3, 1, "210/102/021");
        due("load", x.load(), 6);
        dueTable("load", x, "210/102/021");
        due("the length then", x.count(10), 0);
        due("the fault then", x.fault(0), 0);
        due("states then", x.count(11), 2);
        due("tokens then", x.count(0), 3);

        says("Returns how many sums are different then");
        due("none", typed(4, 1, Z4).load(), 0);
        due("four", typed(4, 1, "0321/1230/2103/3012").load(), 4);
        due("all", typed(4, 1, "1230/2301/3012/0123").load(), 16);
        due("all of two", typed(2, 1, "10/01").load(), 4);
        due("none of two", typed(2, 1, "01/10").load(), 0);
        due("some of eight", typed(8, 1, XOR8).load(), 28);
        due("all of eight", typed(8, 1, "12345670/23456701/34567012/45670123/56701234/67012345/70123456/01234567").load(), 64);

        says("; NOT_POSSIBLE if the pad has a fault, read as a table.");
        String[] faulty = {"", "0", "0123/1230/2301/301", "0123/1230/2301/3011", Z4 + "/", Z4 + "0", "01/10", "012/120/201",
            "0123123023013012", "0123/1230/2301/3012x", "1+2"};
        for (String text : faulty) {
            CrookedSums y = typed(4, 1, text);
            due("load of " + text, y.load(), NOT_POSSIBLE);
            dueText("behind load of " + text, allOf(y), allOf(typed(4, 1, text)));
        }
    }

    private static void promise11() {
        section("## Promise 11: value");
        says("`int value()`: Returns the value of the sum of the pad.");
        due("1 + 2", typed(7, 3, "1+2").value(), 5);
        due("2 + 1", typed(7, 3, "2+1").value(), 0);
        due("what comes around", typed(7, 3, "6+6").value(), 3);
        due("in 38 brackets", typed(7, 3, "(".repeat(38) + "1+2" + ")".repeat(38)).value(), 5);
        due("a bracket in a bracket at the right, 19 deep", typed(7, 3, "1+(".repeat(19) + "1" + ")".repeat(19)).value(), 2);
        due("a bracket in a bracket at the left", typed(7, 3, "((1+2)+3)+4").value(), 2);
        due("brackets side by side", typed(7, 3, "(1+2)+(3+4)").value(), 0);

        says("Returns the token");
        for (int token = 0; token < 8; token++) {
            due("one token alone", typed(8, 1, "" + token).value(), token);
            due("one token in brackets", typed(8, 1, "((" + token + "))").value(), token);
        }

        says("; NOT_POSSIBLE if the pad has a fault, read as a sum.");
        for (String text : new String[] {"", "+", "1+", "(1", "1)", "12", "()", "1+7", "(".repeat(80), "1+".repeat(40), "x"}) {
            CrookedSums x = typed(7, 3, text);
            due("value of " + text, x.value(), NOT_POSSIBLE);
            due("the length then", x.count(10), text.length());
        }
        CrookedSums fewer = typed(8, 1, "7");
        due("the last token of eight", fewer.value(), 7);
        fewer.begin(7, 1);
        due("no token of seven", fewer.value(), NOT_POSSIBLE);
    }

    private static void dueStep(CrookedSums x, int step, int... want) {
        for (int what = 0; what < 4; what++) {
            due("step(" + step + ", " + what + ")", x.step(step, what), want[what]);
        }
    }

    private static void promise12() {
        section("## Promise 12: step");
        says("`int step(int step, int what)`: Returns a step of the sum of the pad: each \"+\" is a step");
        for (int steps = 0; steps <= 39; steps += 13) {
            CrookedSums x = typed(4, 1, "1" + "+1".repeat(steps));
            for (int step = 0; step <= steps; step++) {
                due("step " + step + " of " + steps, x.step(step, 3), step < steps ? 2 * step + 1 : NOT_FOUND);
            }
        }

        says("; the step of a \"+\" comes behind all steps of the two things that it adds, those of the left one first.");
        CrookedSums x = typed(7, 3, "(1+2)+(3+4)");
        dueStep(x, 0, 1, 2, 5, 2);
        dueStep(x, 1, 3, 4, 6, 8);
        dueStep(x, 2, 5, 6, 0, 5);
        CrookedSums right = typed(7, 3, "1+(2+(3+4))");
        dueStep(right, 0, 3, 4, 6, 7);
        dueStep(right, 1, 2, 6, 5, 4);
        dueStep(right, 2, 1, 5, 1, 1);
        CrookedSums left = typed(7, 3, "1+2+3");
        dueStep(left, 0, 1, 2, 5, 1);
        dueStep(left, 1, 5, 3, 4, 3);
        CrookedSums deep = typed(7, 3, "1+(".repeat(19) + "1" + ")".repeat(19));
        for (int step = 0; step < 19; step++) {
            due("the inner ones first", deep.step(step, 3), 3 * (18 - step) + 1);
        }
        due("in 38 brackets", typed(7, 3, "(".repeat(38) + "1+2" + ")".repeat(38)).step(0, 3), 39);

        says("- `step`: 0 for the first one, and so on");
        due("the first one", x.step(0, 0), 1);
        due("the last one", x.step(2, 0), 5);
        due("one too many", x.step(3, 0), NOT_FOUND);

        says("- `what`: 0: the token at the left; 1: the token at the right; 2: their sum; 3: the position of the \"+\" in the pad");
        dueStep(typed(7, 3, "0+6"), 0, 0, 6, 6, 1);
        dueStep(typed(7, 3, "6+0"), 0, 6, 0, 4, 1);
        due("in all brackets but one", typed(7, 3, "(".repeat(37) + "1+2" + ")".repeat(36) + "+0)").step(1, 3), 76);
        due("the last position that there can be", typed(7, 3, "(".repeat(37) + "1+2" + ")".repeat(37) + "+0").step(1, 3), 77);

        says("Returns the number; INVALID_ARGUMENT (also if step is below 0)");
        for (int none : new int[] {-1, 4, 5, -4, 256, Integer.MIN_VALUE, Integer.MAX_VALUE}) {
            due("step(0, " + none + ")", x.step(0, none), INVALID);
            due("step(9, " + none + ")", x.step(9, none), INVALID);
        }
        for (int below : new int[] {-1, -2, -65536, Integer.MIN_VALUE}) {
            due("step(" + below + ", 0)", x.step(below, 0), INVALID);
            due("step(" + below + ", 0), empty pad", new CrookedSums().step(below, 0), INVALID);
        }

        says("; NOT_POSSIBLE if the pad has a fault, read as a sum");
        for (String text : new String[] {"", "1+", "(1+2", "1+2)", "1+7", "1+2x", "+1"}) {
            due("step(0, 0) of " + text, typed(7, 3, text).step(0, 0), NOT_POSSIBLE);
            due("step(99, 0) of " + text, typed(7, 3, text).step(99, 0), NOT_POSSIBLE);
        }

        says("; NOT_FOUND if there are not so many.");
        due("no step at all", typed(7, 3, "1").step(0, 0), NOT_FOUND);
        due("no step in brackets", typed(7, 3, "((1))").step(0, 3), NOT_FOUND);
        due("the first that is not there", typed(7, 3, "1+2").step(1, 2), NOT_FOUND);
        due("step 39 of 39", typed(7, 3, "1" + "+1".repeat(39)).step(39, 2), NOT_FOUND);
        due("far too many", typed(7, 3, "1+2").step(Integer.MAX_VALUE, 2), NOT_FOUND);
        CrookedSums shorter = typed(7, 3, "1+2+3");
        shorter.step(1, 0);
        type(shorter, "1+2");
        due("a step of the pad before", shorter.step(1, 0), NOT_FOUND);
    }

    // ---- looks

    /** Both parameters are tokens: one before the first and one behind the last are none. */
    private static void twoTokens(String first, String second, OfTwo look) {
        for (int place = 0; place <= 1; place++) {
            says(place == 0 ? first : second);
            for (int n = 2; n <= 8; n++) {
                CrookedSums x = begun(n, 1);
                for (int token : new int[] {0, n - 1, n, n + 1, -1, -n, Integer.MIN_VALUE, Integer.MAX_VALUE}) {
                    int got = place == 0 ? look.of(x, token, 0) : look.of(x, 0, token);
                    due("whether there is the token " + token + " of " + n, got == INVALID ? 0 : 1,
                        token >= 0 && token < n ? 1 : 0);
                }
            }
        }
    }

    private static void promises13And14() {
        section("## Promise 13: sum");
        says("`int sum(int a, int b)`: Returns a sum.");
        CrookedSums x = begun(5, 2);
        due("sum(4, 3)", x.sum(4, 3), 1);
        due("sum(3, 4)", x.sum(3, 4), 0);
        twoTokens("- `a`: a token", "- `b`: a token", (y, a, b) -> y.sum(a, b));
        says("Returns a + b; INVALID_ARGUMENT.");
        due("the first ones", x.sum(0, 0), 0);
        due("the last ones", x.sum(4, 4), 2);
        due("both are none", x.sum(5, 5), INVALID);

        section("## Promise 14: between");
        says("`int between(int a, int b, boolean atLeft)`: Returns what is to be added.");
        due("between(4, 1, false)", x.between(4, 1, false), 3);
        due("between(4, 1, true)", x.between(4, 1, true), 1);
        twoTokens("- `a`: a token", "- `b`: a token", (y, a, b) -> y.between(a, b, true));
        twoTokens("- `a`: a token", "- `b`: a token", (y, a, b) -> y.between(a, b, false));
        says("- `atLeft`: whether it is added at the left, otherwise at the right");
        due("at the left", begun(4, 3).between(1, 2, true), 3);
        due("at the right", begun(4, 3).between(1, 2, false), 3);
        due("at the left of 3", begun(4, 3).between(3, 1, true), 2);
        due("at the right of 3", begun(4, 3).between(3, 1, false), 0);
        says("Returns the token x with a + x as b, or, at the left, x + a as b; INVALID_ARGUMENT.");
        for (int n = 2; n <= 8; n++) {
            CrookedSums y = begun(n, n - 1);
            for (int a = 0; a < n; a++) {
                for (int b = 0; b < n; b += n - 1) {
                    due("a + x", y.sum(a, y.between(a, b, false)), b);
                    due("x + a", y.sum(y.between(a, b, true), a), b);
                }
            }
        }
        due("nothing to be added", begun(8, 1).between(7, 7, true), 0);
        due("both are none", x.between(5, 5, true), INVALID);
    }

    private static void promise15() {
        section("## Promise 15: returns");
        says("`int returns(int s, int a, boolean atLeft)`: Returns a return.");
        due("the most", begun(8, 1).returns(0, 7, true), 8);
        due("the least", begun(8, 1).returns(7, 0, true), 1);
        twoTokens("- `s`: a token", "- `a`: a token", (y, a, b) -> y.returns(a, b, true));
        twoTokens("- `s`: a token", "- `a`: a token", (y, a, b) -> y.returns(a, b, false));
        says("- `atLeft`: whether the left return, otherwise the right one");
        CrookedSums x = begun(5, 2);
        due("the left one", x.returns(1, 4, true), 5);
        due("the right one", x.returns(1, 4, false), 1);
        says("Returns the return of s under a; INVALID_ARGUMENT.");
        CrookedSums y = withFirstRow(1, 2, 0, 4, 5, 6, 7, 3);
        for (int s = 0; s < 8; s++) {
            due("the return of " + s + " under 0", y.returns(s, 0, true), s < 3 ? 3 : 5);
        }
        due("the return of 0 under 2, at the right", y.returns(0, 2, false), 1);
        due("both are none", y.returns(8, 8, true), INVALID);
    }

    private static void promise16() {
        section("## Promise 16: token");
        says("`int token(int token, int what)`: Returns a property of a token.");
        due("the sum of 3 with itself", new CrookedSums().token(3, 6), 2);
        says("- `token`: a token");
        for (int n = 2; n <= 8; n++) {
            for (int token : new int[] {0, n - 1, n, n + 1, -1, Integer.MIN_VALUE, Integer.MAX_VALUE}) {
                for (int what = 0; what <= 8; what++) {
                    due("whether there is the token " + token + " of " + n, begun(n, 1).token(token, what) == INVALID ? 0 : 1,
                        token >= 0 && token < n ? 1 : 0);
                }
            }
        }
        CrookedSums loop = loaded(5, LOOP5);
        says("- `what`: 0: how many tokens commute with it (with itself)");
        due("all", loop.token(0, 0), 5);
        due("it and the neutral one", loop.token(1, 0), 2);
        due("it alone", begun(5, 2).token(4, 0), 1);
        says("; 1: how many pairs b, c there are with which it associates as the first one (it, b, c)");
        due("all", loop.token(0, 1), 25);
        due("some", loop.token(1, 1), 16);
        due("none", begun(5, 2).token(4, 1), 0);
        says("; 2: 1 if it changes nothing at the left, otherwise 0; 3: 1 if it changes nothing at the right, otherwise 0");
        int[][] sides = {{1, 0}, {0, 0}, {0, 0}, {0, 0}};
        for (int token = 0; token < 4; token++) {
            due("at the left", begun(4, 3).token(token, 2), sides[token][0]);
            due("at the right", begun(4, 3).token(token, 3), sides[token][1]);
        }
        CrookedSums last = loaded(3, "120/201/012");
        due("the last one at the left", last.token(2, 2), 1);
        due("the last one at the right", last.token(2, 3), 1);
        due("at the right alone, at the left", loaded(4, "0132/1023/2310/3201").token(0, 2), 0);
        due("at the right alone", loaded(4, "0132/1023/2310/3201").token(0, 3), 1);
        says("; 4: how many tokens its ring has; 5: its ring as bits");
        due("itself alone: tokens", begun(8, 1).token(0, 4), 1);
        due("itself alone: bits", begun(8, 1).token(0, 5), 1);
        due("two: tokens", begun(8, 1).token(4, 4), 2);
        due("two: bits", begun(8, 1).token(4, 5), 17);
        due("all: tokens", begun(8, 1).token(7, 4), 8);
        due("all: bits", begun(8, 1).token(7, 5), 255);
        says("; 6: the sum of it with itself");
        due("the first one", begun(5, 2).token(0, 6), 0);
        due("the last one", begun(5, 2).token(4, 6), 2);
        roundsOfToken();
        says("Returns the number; INVALID_ARGUMENT.");
        for (int none : new int[] {-1, 9, 10, -9, 256, Integer.MIN_VALUE, Integer.MAX_VALUE}) {
            due("token(0, " + none + ")", new CrookedSums().token(0, none), INVALID);
            due("token(4, " + none + ")", new CrookedSums().token(4, none), INVALID);
        }
    }

    private static void roundsOfToken() {
        int[][] rows = {{0, 1}, {1, 0}, {0, 1, 2, 3, 4, 5, 6, 7}, {0, 1, 2, 3, 4, 5, 7, 6}, {7, 6, 5, 4, 3, 2, 1, 0},
            {1, 2, 3, 4, 5, 6, 7, 0}, {1, 2, 0, 4, 5, 6, 7, 3}, {1, 0, 3, 4, 2, 5, 7, 6}, {1, 2, 0, 4, 5, 6, 3}};
        int[] rounds = {2, 1, 8, 7, 4, 1, 2, 4, 2};
        int[] times = {1, 2, 1, 2, 2, 8, 15, 6, 12};
        says("; 7: how many rounds the left sums with it make: how many different sets of tokens that come behind one another,"
            + " if it is added at the left again and again");
        for (int i = 0; i < rows.length; i++) {
            due("rounds of row " + i, withFirstRow(rows[i]).token(0, 7), rounds[i]);
        }
        due("not those at the right", begun(8, 3).token(1, 7), 1);
        says("; 8: the least number of times, 1 or more, behind which all tokens come again, if it is added at the left");
        for (int i = 0; i < rows.length; i++) {
            due("times of row " + i, withFirstRow(rows[i]).token(0, 8), times[i]);
        }
        due("not those at the right", begun(8, 3).token(1, 8), 8);
    }

    private static void promise17() {
        section("## Promise 17: ring");
        says("`int ring(int seeds)`: Returns the ring of some seeds.");
        CrookedSums x = begun(8, 1);
        due("of one", x.ring(16), 17);
        due("of two", x.ring(20), 85);
        due("where one way round comes out", begun(3, 2).ring(3), 7);
        says("- `seeds`: the seeds as bits, at least one, of tokens alone");
        for (int n = 2; n <= 8; n++) {
            CrookedSums y = begun(n, 1);
            due("no seed", y.ring(0), INVALID);
            due("the first token", y.ring(1), 1);
            due("the last token", y.ring(1 << n - 1), (1 << n) - 1);
            due("all tokens", y.ring((1 << n) - 1), (1 << n) - 1);
            due("one behind the last token", y.ring(1 << n), INVALID);
            due("one behind the last token, and the first", y.ring(1 + (1 << n)), INVALID);
            due("all tokens and one more", y.ring((1 << n + 1) - 1), INVALID);
            due("far behind the last", y.ring(1 << 30 | 1), INVALID);
        }
        says("Returns the ring as bits; INVALID_ARGUMENT.");
        due("the least ring", x.ring(1), 1);
        due("the greatest ring", x.ring(128), 255);
        for (int none : new int[] {-1, -255, -256, Integer.MIN_VALUE, Integer.MIN_VALUE | 1, Integer.MAX_VALUE}) {
            due("ring(" + none + ")", x.ring(none), INVALID);
        }
    }

    private static void promise18() {
        section("## Promise 18: ringAt");
        says("`int ringAt(int place)`: Returns a ring by its place among all rings, put in the order of their numbers as bits.");
        int[] rings = {1, 3, 5, 9, 15, 17, 33, 51, 65, 85, 105, 129, 153, 165, 195, 255};
        CrookedSums x = loaded(8, XOR8);
        for (int place = 0; place < rings.length; place++) {
            due("ringAt(" + place + ")", x.ringAt(place), rings[place]);
        }
        says("- `place`: 0 for the least one, and so on");
        due("the least one of two", begun(2, 1).ringAt(0), 1);
        due("the next one of two", begun(2, 1).ringAt(1), 3);
        due("the only one", loaded(3, "210/102/021").ringAt(0), 7);
        says("Returns the ring as bits; INVALID_ARGUMENT if place is below 0; NOT_FOUND if there are not so many.");
        due("below 0", x.ringAt(-1), INVALID);
        due("far below 0", x.ringAt(Integer.MIN_VALUE), INVALID);
        due("one too many", x.ringAt(16), NOT_FOUND);
        due("one too many of two", begun(2, 1).ringAt(2), NOT_FOUND);
        due("one more than the only one", loaded(3, "210/102/021").ringAt(1), NOT_FOUND);
        due("as many as the sets", x.ringAt(255), NOT_FOUND);
        due("far too many", x.ringAt(Integer.MAX_VALUE), NOT_FOUND);
    }

    private static void promise19() {
        section("## Promise 19: count");
        says("`int count(int what)`: Returns a number.");
        due("of tokens", new CrookedSums().count(0), 4);
        says("- `what`: 0: tokens");
        due("the fewest", begun(2, 1).count(0), 2);
        due("the most", begun(8, 1).count(0), 8);
        says("; 1: pairs a, b, in each order and with themselves, that commute");
        due("with themselves alone", begun(7, 3).count(1), 7);
        due("all", begun(8, 1).count(1), 64);
        due("in each order", begun(4, 3).count(1), 8);
        says("; 2: triples that associate");
        due("the fewest told of begin(7, ..)", begun(7, 3).count(2), 49);
        due("all", begun(8, 1).count(2), 512);
        says("; 3: the token that changes nothing at the left, 4: at the right, NOT_FOUND without one");
        due("the first one at the left", begun(5, 2).count(3), 0);
        due("none at the right", begun(5, 2).count(4), NOT_FOUND);
        CrookedSums last = withFirstRow(4, 0, 1, 2, 3);
        due("none at the left", last.count(3), 1);
        last.rows(1, 4);
        due("the last one at the left", last.count(3), 4);
        due("none at the right then", last.count(4), NOT_FOUND);
        CrookedSums right = new CrookedSums();
        right.columns(0, 3);
        due("none at the left then", right.count(3), NOT_FOUND);
        due("the last one at the right", right.count(4), 3);
        says("; 5: tokens a with a + a as a");
        due("none", loaded(3, "102/021/210").count(5), 0);
        due("one", new CrookedSums().count(5), 1);
        due("all", loaded(3, "021/210/102").count(5), 3);
        says("; 6: rings");
        due("the fewest", loaded(3, "210/102/021").count(6), 1);
        due("sixteen", loaded(8, XOR8).count(6), 16);
        says("; 7: the fewest seeds; 8: the least set of so many seeds, as bits, whose ring has all tokens");
        seeds();
        says("; 9: little squares, each counted once");
        due("none", begun(7, 1).count(9), 0);
        due("one", begun(2, 1).count(9), 1);
        due("four", new CrookedSums().count(9), 4);
        due("the most", loaded(8, XOR8).count(9), 112);
        says("; 10: the length of the pad; 11: states in the history");
        CrookedSums x = new CrookedSums();
        for (int i = 1; i <= 81; i++) {
            due("the length", x.count(10), i - 1);
            x.append(48);
        }
        due("the length of the full pad", x.count(10), 80);
        for (int i = 0; i <= 5; i++) {
            due("states", x.count(11), Math.min(i, 4));
            x.names(0, 1);
        }
        says("Returns the number; INVALID_ARGUMENT.");
        for (int none : new int[] {-1, 12, 13, -12, 256, 65536, Integer.MIN_VALUE, Integer.MAX_VALUE}) {
            due("count(" + none + ")", x.count(none), INVALID);
        }
    }

    private static void seeds() {
        String[] tables = {"01/10", "10/01", "210/102/021", "021/210/102", KLEIN, LOOP5, XOR8};
        int[] fewest = {1, 1, 1, 2, 2, 2, 3};
        int[] least = {2, 1, 1, 3, 6, 6, 22};
        for (int i = 0; i < tables.length; i++) {
            CrookedSums x = loaded(tables[i].indexOf('/'), tables[i]);
            due("the fewest seeds of " + tables[i], x.count(7), fewest[i]);
            due("the least set of " + tables[i], x.count(8), least[i]);
        }
        // Remainders by 6 with the names 1 and 4 exchanged all over: 2 and 3 are seeds, but 4 alone is one too.
        CrookedSums six = loaded(6, "012345/120453/201534/345012/453120/534201");
        due("one seed, though two have lesser bits", six.count(7), 1);
        due("its bits", six.count(8), 16);
        CrookedSums sums = begun(7, 1);
        due("the first of many", sums.count(8), 2);
    }

    private static void promise20() {
        section("## Promise 20: crooked");
        says("`double crooked()`: Returns how crooked the sums are.");
        dueD("not at all", begun(8, 1).crooked(), 0.0);
        dueD("half", begun(4, 3).crooked(), 0.5);
        says("Returns the triples that do not associate, as a double, divided by all triples.");
        for (int tokens = 2; tokens <= 8; tokens++) {
            for (int crook = 1; crook < tokens; crook++) {
                if (divisor(tokens, crook) == 1) {
                    int not = tokens * tokens * (tokens - divisor(tokens, crook - 1));
                    dueD("begin(" + tokens + ", " + crook + ")", begun(tokens, crook).crooked(),
                        (double) not / (tokens * tokens * tokens));
                }
            }
        }
        dueD("of 125", loaded(5, LOOP5).crooked(), 36.0 / 125.0);
    }

    // ---- brackets

    private static final String[] NO_ROWS = {"", "8", "x", "1+2", "(1)", "12345670", "1234567x", "18", "1/2"};

    private static void tokenOfRow(String name, OfTwo look) {
        for (int n = 2; n <= 8; n++) {
            CrookedSums x = typed(n, 1, "01");
            for (int token : new int[] {0, n - 1, n, n + 1, -1, Integer.MIN_VALUE, Integer.MAX_VALUE}) {
                due(name + ": whether there is the token " + token + " of " + n, look.of(x, token, 0) == INVALID ? 0 : 1,
                    token >= 0 && token < n ? 1 : 0);
            }
        }
    }

    private static void promise21() {
        section("## Promise 21: ways");
        says("`int ways(int token, int way)`: Tells in how many ways the row of the pad has a sum.");
        due("the one of one token", typed(8, 1, "7").ways(7, 0), 1);
        due("132 of seven tokens", typed(8, 1, "7654321").ways(4, 0), 132);
        says("- `token`: a token");
        tokenOfRow("by the parts", (x, a, b) -> x.ways(a, 0));
        tokenOfRow("one by one", (x, a, b) -> x.ways(a, 1));
        says("- `way`: 0: told by the sums of all its parts; 1: told by each way with brackets by itself");
        for (int none : new int[] {-1, 2, 3, 256, Integer.MIN_VALUE, Integer.MAX_VALUE}) {
            due("ways(0, " + none + ")", typed(4, 1, "12").ways(0, none), INVALID);
            due("ways(0, " + none + "), empty pad", new CrookedSums().ways(0, none), INVALID);
        }
        says("Returns how many ways have this token as their sum (the same for both)");
        int[] eight = {33, 0, 35, 0, 33, 0, 31, 0};
        for (int token = 0; token < 8; token++) {
            due("ways(" + token + ", 0) of eight tokens", typed(8, 3, "7654321").ways(token, 0), eight[token]);
            due("ways(" + token + ", 1) of eight tokens", typed(8, 3, "7654321").ways(token, 1), eight[token]);
        }
        String[] rows = {"1362541", "6666", "123", "12", "6"};
        int[][] want = {{18, 20, 20, 19, 16, 20, 19}, {0, 0, 1, 0, 1, 2, 1}, {0, 0, 0, 0, 1, 1, 0}, {0, 0, 0, 0, 0, 1, 0},
            {0, 0, 0, 0, 0, 0, 1}};
        for (int i = 0; i < rows.length; i++) {
            CrookedSums x = typed(7, 3, rows[i]);
            for (int token = 0; token < 7; token++) {
                due("ways(" + token + ", 0) of " + rows[i], x.ways(token, 0), want[i][token]);
                due("ways(" + token + ", 1) of " + rows[i], x.ways(token, 1), want[i][token]);
            }
        }
        says("; INVALID_ARGUMENT; NOT_POSSIBLE if the pad has a fault, read as a row.");
        for (String text : NO_ROWS) {
            due("ways(0, 0) of " + text, typed(8, 1, text).ways(0, 0), NOT_POSSIBLE);
            due("ways(0, 1) of " + text, typed(8, 1, text).ways(0, 1), NOT_POSSIBLE);
            due("ways(8, 0) of " + text, typed(8, 1, text).ways(8, 0), INVALID);
            due("ways(0, 2) of " + text, typed(8, 1, text).ways(0, 2), INVALID);
        }
    }

    private static void promise22() {
        section("## Promise 22: sums");
        says("`int sums(int what)`: Returns the sums of the row of the pad.");
        due("of three", typed(7, 3, "123").sums(0), 48);
        says("- `what`: 0: the tokens that are its sum in some way, as bits");
        due("one token, the first", typed(8, 1, "0").sums(0), 1);
        due("one token, the last", typed(8, 1, "7").sums(0), 128);
        due("one of all ways", typed(8, 1, "7654321").sums(0), 16);
        due("all tokens", typed(7, 3, "1362541").sums(0), 127);
        due("in one way alone", typed(7, 3, "6666").sums(0), 4 + 16 + 32 + 64);
        says("; 1: its sum from the left to the right; 2: its sum from the right to the left, the last two first");
        String[] rows = {"1362541", "6666", "123", "12", "6"};
        int[][] want = {{5, 1}, {2, 4}, {4, 5}, {5, 5}, {6, 6}};
        for (int i = 0; i < rows.length; i++) {
            due("from the left, " + rows[i], typed(7, 3, rows[i]).sums(1), want[i][0]);
            due("from the right, " + rows[i], typed(7, 3, rows[i]).sums(2), want[i][1]);
        }
        says("; 3: the token that is its sum in most ways, of several the lowest");
        due("one token, the last", typed(8, 1, "7").sums(3), 7);
        due("one token, the first", typed(8, 1, "0").sums(3), 0);
        due("the only one", typed(8, 1, "7654321").sums(3), 4);
        due("the only one, the first", typed(8, 1, "1111112").sums(3), 0);
        due("0 and 2 with 1 way each", typed(4, 3, "123").sums(3), 0);
        due("the most, behind some", typed(7, 3, "6666").sums(3), 5);
        due("the last one", typed(3, 2, "1011").sums(3), 2);
        due("1 and 5 of four with 20 ways", typed(7, 3, "1362541").sums(3), 1);
        CrookedSums tie = loaded(4, "1203/3120/2031/0312");
        type(tie, "20120");
        due("2 and 3 with 4 ways each", tie.sums(3), 2);
        CrookedSums tie5 = loaded(5, "43012/31204/10423/24130/02341");
        type(tie5, "244440");
        due("2 and 4 with 11 ways each", tie5.sums(3), 2);
        says("Returns the number; INVALID_ARGUMENT; NOT_POSSIBLE if the pad has a fault, read as a row.");
        for (int none : new int[] {-1, 4, 5, 256, Integer.MIN_VALUE, Integer.MAX_VALUE}) {
            due("sums(" + none + ")", typed(4, 1, "12").sums(none), INVALID);
            due("sums(" + none + "), empty pad", new CrookedSums().sums(none), INVALID);
        }
        for (String text : NO_ROWS) {
            for (int what = 0; what <= 3; what++) {
                due("sums(" + what + ") of " + text, typed(8, 1, text).sums(what), NOT_POSSIBLE);
            }
        }
    }

    private static void promise23() {
        section("## Promise 23: cut");
        says("`int cut(int token)`: Finds the first cut of a way.");
        due("of several", typed(5, 2, "1234").cut(1), 1);
        says("- `token`: a token");
        tokenOfRow("cut", (x, a, b) -> x.cut(a));
        says("Returns the least number of tokens, 1 or more, that a former row can have in a cut of the whole row of the pad,"
            + " with which it comes to the token");
        int[] four = {1, 1, 3, 2, NOT_FOUND};
        for (int token = 0; token < 5; token++) {
            due("cut(" + token + ") of 1234", typed(5, 2, "1234").cut(token), four[token]);
        }
        due("the one cut of two", typed(5, 2, "12").cut(4), 1);
        due("the former and the latter row come to 0", typed(5, 2, "00").cut(0), 1);
        due("the former row comes to 0", typed(5, 2, "04").cut(4), 1);
        due("the former and the latter row come to the last token", typed(5, 2, "44").cut(2), 1);
        CrookedSums six = loaded(4, "2031/3210/1302/0123");
        type(six, "2333311");
        due("the last cut of seven", six.cut(1), 6);
        due("the first cut of seven", six.cut(0), 1);
        says("; INVALID_ARGUMENT; NOT_POSSIBLE if the pad has a fault, read as a row");
        for (String text : NO_ROWS) {
            due("cut(0) of " + text, typed(8, 1, text).cut(0), NOT_POSSIBLE);
            due("cut(8) of " + text, typed(8, 1, text).cut(8), INVALID);
            due("cut(-1) of " + text, typed(8, 1, text).cut(-1), INVALID);
        }
        says("; NOT_FOUND if no way comes to it, or the row has one token.");
        due("no way of two", typed(5, 2, "12").cut(3), NOT_FOUND);
        due("no way of seven", six.cut(3), NOT_FOUND);
        due("parts alone come to it", typed(8, 1, "171").cut(0), NOT_FOUND);
        for (int token = 0; token < 8; token++) {
            due("the row has one token", typed(8, 1, "" + token).cut(token), NOT_FOUND);
            due("the row has one token, another one", typed(8, 1, "" + token).cut(7 - token), NOT_FOUND);
        }
    }

    // ---- what would be

    private static void promise24() {
        section("## Promise 24: ifSwapped");
        says("`int ifSwapped(int a, int b, int c, int d, int what)`: Tells what swapping a little square would bring.");
        CrookedSums x = new CrookedSums();
        due("it would bring KLEIN", x.ifSwapped(1, 3, 1, 3, 1), 64);
        dueText("all is as it was", allOf(x), allOf(new CrookedSums()));
        tokensOfSquare((y, a, b, c, d) -> y.ifSwapped(a, b, c, d, 0), "- `a`: as for swap()", "- `b`: as for swap()",
            "- `c`: as for swap()", "- `d`: as for swap()");
        says("- `what`: 0: how many pairs would commute; 1: how many triples would associate; 2: how many rings there would be");
        int[][] squares = {{0, 2, 1, 3}, {2, 0, 3, 1}, {1, 3, 1, 3}, {0, 2, 0, 2}};
        int[][] would = {{8, 32, 3}, {8, 32, 3}, {16, 64, 5}, {16, 32, 3}};
        for (int i = 0; i < squares.length; i++) {
            int[] s = squares[i];
            for (int what = 0; what <= 2; what++) {
                due("square " + i + ", what " + what, new CrookedSums().ifSwapped(s[0], s[1], s[2], s[3], what), would[i][what]);
            }
        }
        int[] two = {4, 8, 2};
        for (int what = 0; what <= 2; what++) {
            due("of two tokens, what " + what, begun(2, 1).ifSwapped(0, 1, 0, 1, what), two[what]);
        }
        says("Returns the number; INVALID_ARGUMENT; NOT_POSSIBLE as for swap().");
        for (int none : new int[] {-1, 3, 4, 256, Integer.MIN_VALUE, Integer.MAX_VALUE}) {
            due("what " + none, new CrookedSums().ifSwapped(0, 2, 1, 3, none), INVALID);
            due("what " + none + ", no square", new CrookedSums().ifSwapped(0, 1, 0, 1, none), INVALID);
        }
        for (int token = 0; token < 4; token++) {
            due("both rows are " + token, x.ifSwapped(token, token, 0, 1, 0), INVALID);
            due("both columns are " + token, x.ifSwapped(0, 1, token, token, 0), INVALID);
        }
        due("a + c alone the same as b + d", x.ifSwapped(0, 1, 1, 0, 0), NOT_POSSIBLE);
        due("a + d alone the same as b + c", x.ifSwapped(0, 1, 0, 1, 1), NOT_POSSIBLE);
        due("neither", x.ifSwapped(0, 2, 0, 1, 2), NOT_POSSIBLE);
    }

    private static void dueBest(CrookedSums x, int... want) {
        for (int what = 0; what <= 4; what++) {
            due("best(" + what + ")", x.best(what), want[what]);
        }
    }

    private static void promise25() {
        section("## Promise 25: best");
        says("`int best(int what)`: Finds the little square whose swap would make most triples associate.");
        dueBest(new CrookedSums(), 1, 3, 1, 3, 64);
        dueBest(loaded(8, XOR8), 1, 2, 1, 2, 448);
        says("- `what`: 0: its lesser row; 1: its greater row; 2: its lesser column; 3: its greater column;"
            + " 4: how many triples would associate");
        dueBest(begun(8, 1), 1, 5, 1, 5, 448);
        dueBest(begun(6, 1), 1, 4, 1, 4, 184);
        dueBest(begun(2, 1), 0, 1, 0, 1, 8);
        says("; of several little squares the one with the least lesser row");
        // The other one has the rows 2 and 3 and the columns 1 and 4.
        dueBest(loaded(6, "504231/023415/142350/251043/435102/310524"), 1, 5, 3, 5, 42);
        dueBest(loaded(8, "04326517/27603154/62531740/45072631/71240365/30165472/56417203/13754026"), 2, 5, 1, 7, 72);
        dueBest(loaded(4, KLEIN), 1, 2, 1, 2, 64);
        says(", of these that with the least greater row, and so on");
        // The other ones have the rows 1 and 4 and the columns 1 and 3, then the same rows and the columns 1 and 2.
        dueBest(loaded(5, "24031/41302/13420/02143/30214"), 1, 2, 3, 4, 33);
        dueBest(loaded(6, "130452/203541/345120/512304/054213/421035"), 2, 4, 0, 5, 41);
        dueBest(loaded(5, LOOP5), 0, 1, 0, 1, 53);
        says("Returns the number; INVALID_ARGUMENT; NOT_FOUND if there is no little square.");
        for (int none : new int[] {-1, 5, 6, -4, 256, Integer.MIN_VALUE, Integer.MAX_VALUE}) {
            due("best(" + none + ")", new CrookedSums().best(none), INVALID);
            due("best(" + none + ") without a square", begun(7, 1).best(none), INVALID);
        }
        for (int n = 3; n <= 7; n += 2) {
            for (int what = 0; what <= 4; what++) {
                due("best(" + what + ") without a square", begun(n, 1).best(what), NOT_FOUND);
            }
        }
        CrookedSums before = new CrookedSums();
        before.best(0);
        before.begin(5, 1);
        due("the square of the table before", before.best(0), NOT_FOUND);
    }

    // ---- history, snapshot

    private static void promise26() {
        section("## Promise 26: undo");
        says("`int undo()`: Undoes the latest change: everything but the pad and the snapshot is as it was before it.");
        CrookedSums x = begun(5, 2);
        x.save();
        type(x, "1+2");
        x.begin(8, 3);
        x.rows(0, 7);
        x.save();
        type(x, "1+2+3");
        due("undo of rows", x.undo(), 2);
        due("tokens behind undo of rows", x.count(0), 8);
        due("a sum behind undo of rows", x.sum(0, 7), 7);
        due("undo of begin", x.undo(), 1);
        dueTable("undo of begin", x, "01234/23401/40123/12340/34012");
        due("the pad stays", x.count(10), 5);
        due("the snapshot stays", x.restore(), 8);
        due("its table", x.sum(0, 7), 4);
        CrookedSums refused = new CrookedSums();
        refused.columns(1, 2);
        refused.rows(0, 0);
        due("undo behind a call that was refused", refused.undo(), 0);
        dueTable("undo behind a call that was refused", refused, Z4);
        CrookedSums loads = typed(4, 1, KLEIN);
        loads.load();
        due("undo of load", loads.undo(), 1);
        dueTable("undo of load", loads, Z4);
        due("undo of load leaves the pad empty", loads.count(10), 0);

        says("Returns how many states the history has then; NOT_POSSIBLE if it has none.");
        CrookedSums y = new CrookedSums();
        due("none at first", y.undo(), NOT_POSSIBLE);
        for (int i = 0; i < 7; i++) {
            y.begin(2 + i, 1);
        }
        for (int i = 3; i >= 0; i--) {
            due("undo", y.undo(), i);
            due("tokens then", y.count(0), 4 + i);
        }
        due("none any more", y.undo(), NOT_POSSIBLE);
        due("tokens then", y.count(0), 4);
        due("states then", y.count(11), 0);
        y.names(0, 1);
        due("one again", y.undo(), 0);
    }

    private static void promises27And28() {
        section("## Promise 27: save");
        says("`int save()`: Takes a snapshot of everything but the pad and the history, in place of the one that was.");
        CrookedSums x = loaded(3, "210/102/021");
        type(x, "01");
        x.save();
        due("the pad behind save", x.count(10), 2);
        due("its sum", x.sums(1), 1);
        due("the history behind save", x.count(11), 2);
        dueTable("the table behind save", x, "210/102/021");
        x.names(0, 1);
        type(x, "0+1+2");
        x.restore();
        dueTable("the table of the snapshot", x, "210/102/021");
        due("the pad of now", x.count(10), 5);
        due("the history of now", x.count(11), 4);
        x.begin(2, 1);
        x.save();
        x.begin(8, 1);
        due("the newer one", x.restore(), 2);
        dueTable("the newer one", x, "01/10");
        due("save is no change", x.count(11), 4);
        due("undo behind save", x.undo(), 3);
        due("tokens then", x.count(0), 8);
        says("Returns how many tokens there are.");
        for (int n = 2; n <= 8; n++) {
            due("save of " + n, begun(n, 1).save(), n);
        }
        due("save of a new object", new CrookedSums().save(), 4);

        section("## Promise 28: restore");
        says("`int restore()`: Restores the snapshot, which stays.");
        CrookedSums y = loaded(4, KLEIN);
        y.save();
        for (int i = 0; i < 6; i++) {
            y.begin(5 + i % 3, 1);
            due("restore " + i, y.restore(), 4);
            dueTable("restore " + i, y, KLEIN);
            y.rows(0, 3);
            y.swap(0, 3, 0, 3);
        }
        says("Returns how many tokens there are then; NOT_POSSIBLE if there is none.");
        for (int n = 2; n <= 8; n++) {
            CrookedSums z = begun(n, 1);
            z.save();
            z.begin(10 - n, 1);
            due("restore of " + n, z.restore(), n);
        }
        CrookedSums none = begun(5, 2);
        due("restore without a snapshot", none.restore(), NOT_POSSIBLE);
        due("states then", none.count(11), 1);
        dueTable("behind restore without a snapshot", none, "01234/23401/40123/12340/34012");
        due("another object's snapshot is none", new CrookedSums().restore(), NOT_POSSIBLE);
    }

    public static void main(String[] args) throws IOException {
        open();
        promise1();
        promise2();
        promises3To5();
        promise6();
        promises7And8();
        promise9();
        promise10();
        promise11();
        promise12();
        promises13And14();
        promise15();
        promise16();
        promise17();
        promise18();
        promise19();
        promise20();
        promise21();
        promise22();
        promise23();
        promise24();
        promise25();
        promise26();
        promises27And28();
        dueAllTold("## Promise 1: A new object", "## Not promised");
        tellAndExit();
    }
}
