// Calls with answers that were worked out by hand from the document, promise by promise.
public final class PromiseTests extends Checks {
    private static void promise1NewObject() {
        CrookedSums x = new CrookedSums();
        dueTable("new", x, "0123/1230/2301/3012");
        due("new: count(0)", x.count(0), 4);
        due("new: count(10)", x.count(10), 0);
        due("new: count(11)", x.count(11), 0);
        due("new: undo", x.undo(), NOT_POSSIBLE);
        due("new: restore", x.restore(), NOT_POSSIBLE);
    }

    private static void promise2Begin() {
        CrookedSums x = new CrookedSums();
        due("begin(2, 1)", x.begin(2, 1), 8);
        dueTable("begin(2, 1)", x, "01/10");
        due("begin(2, 7)", x.begin(2, 7), 8);
        dueTable("begin(2, 7)", x, "01/10");
        due("begin(5, 7)", x.begin(5, 7), 25);
        dueTable("begin(5, 7)", x, "01234/23401/40123/12340/34012");
        due("begin(8, 1)", x.begin(8, 1), 512);
        due("begin(8, 5)", x.begin(8, 5), 256);
        dueTable("begin(8, 5)", x, "01234567/56701234/23456701/70123456/45670123/12345670/67012345/34567012");
        due("begin(7, 6)", x.begin(7, 6), 49);
        due("begin(3, 2)", x.begin(3, 2), 9);
        int[][] bad = {{1, 1}, {0, 1}, {-1, 1}, {9, 1}, {4, 0}, {4, 8}, {5, 8}, {4, -1}, {4, 2}, {4, 6}, {6, 3},
            {6, 4}, {6, 2}, {7, 7}, {8, 6}, {2, 2}, {3, 6}, {5, 5}};
        for (int[] pair : bad) {
            due("begin(" + pair[0] + ", " + pair[1] + ")", x.begin(pair[0], pair[1]), INVALID);
        }
        for (int far : FAR) {
            due("begin(" + far + ", 1)", x.begin(far, 1), INVALID);
            due("begin(5, " + far + ")", x.begin(5, far), INVALID);
        }
        dueTable("begin: errors change nothing", x, "012/201/120");
        due("begin: history", x.count(11), 4);
        type(x, "12");
        x.begin(4, 3);
        due("begin keeps the pad", x.count(10), 2);
    }

    private static void promise3Rows() {
        CrookedSums x = new CrookedSums();
        due("rows(0, 3)", x.rows(0, 3), 8);
        dueTable("rows(0, 3)", x, "3012/1230/2301/0123");
        due("rows(2, 1)", x.rows(2, 1), 8);
        dueTable("rows(2, 1)", x, "3012/2301/1230/0123");
        due("rows(1, 1)", x.rows(1, 1), INVALID);
        due("rows(0, 4)", x.rows(0, 4), INVALID);
        due("rows(4, 0)", x.rows(4, 0), INVALID);
        for (int far : FAR) {
            due("rows(0, far)", x.rows(0, far), INVALID);
            due("rows(far, 0)", x.rows(far, 0), INVALID);
        }
        due("rows: history", x.count(11), 2);
        due("rows, 8 tokens", begun(8, 1).rows(6, 7), 16);
    }

    private static void promise4Columns() {
        CrookedSums x = begun(3, 2);
        due("columns(0, 2)", x.columns(0, 2), 6);
        dueTable("columns(0, 2)", x, "210/102/021");
        due("columns(2, 2)", x.columns(2, 2), INVALID);
        due("columns(3, 0)", x.columns(3, 0), INVALID);
        due("columns(0, 3)", x.columns(0, 3), INVALID);
        for (int far : FAR) {
            due("columns(0, far)", x.columns(0, far), INVALID);
            due("columns(far, 0)", x.columns(far, 0), INVALID);
        }
        due("columns: history", x.count(11), 2);
        dueTable("columns: errors change nothing", x, "210/102/021");
    }

    private static void promise5Names() {
        CrookedSums x = begun(3, 1);
        due("names(0, 2)", x.names(0, 2), 6);
        dueTable("names(0, 2)", x, "210/102/021");
        due("names(1, 0)", x.names(1, 0), 6);
        dueTable("names(1, 0)", x, "201/012/120");
        due("names(0, 0)", x.names(0, 0), INVALID);
        due("names(3, 0)", x.names(3, 0), INVALID);
        due("names(0, 3)", x.names(0, 3), INVALID);
        for (int far : FAR) {
            due("names(0, far)", x.names(0, far), INVALID);
            due("names(far, 0)", x.names(far, 0), INVALID);
        }
        due("names: history", x.count(11), 3);
    }

    private static void promise6Swap() {
        CrookedSums x = new CrookedSums();
        due("swap(2, 0, 1, 3)", x.swap(2, 0, 1, 3), 968);
        dueTable("swap(2, 0, 1, 3)", x, "0321/1230/2103/3012");
        due("swap(0, 1, 2, 3)", x.swap(0, 1, 2, 3), NOT_POSSIBLE);
        due("swap(0, 0, 1, 3)", x.swap(0, 0, 1, 3), INVALID);
        due("swap(0, 2, 1, 1)", x.swap(0, 2, 1, 1), INVALID);
        due("swap(0, 4, 1, 3)", x.swap(0, 4, 1, 3), INVALID);
        due("swap(4, 0, 1, 3)", x.swap(4, 0, 1, 3), INVALID);
        due("swap(0, 2, 4, 3)", x.swap(0, 2, 4, 3), INVALID);
        due("swap(0, 2, 1, 4)", x.swap(0, 2, 1, 4), INVALID);
        due("swap(0, 1, 1, 1)", x.swap(0, 1, 1, 1), INVALID);
        for (int far : FAR) {
            due("swap far a", x.swap(far, 2, 1, 3), INVALID);
            due("swap far b", x.swap(0, far, 1, 3), INVALID);
            due("swap far c", x.swap(0, 2, far, 3), INVALID);
            due("swap far d", x.swap(0, 2, 1, far), INVALID);
        }
        due("swap: history", x.count(11), 1);
        due("swap(0, 2, 3, 1)", x.swap(0, 2, 3, 1), 1032);
        dueTable("swap back", x, "0123/1230/2301/3012");
        due("swap: two tokens", begun(2, 1).swap(0, 1, 1, 0), 1000);
    }

    private static void promise7Append() {
        CrookedSums x = new CrookedSums();
        due("append(32)", x.append(32), INVALID);
        due("append(127)", x.append(127), INVALID);
        due("append(33)", x.append(33), 1);
        due("append(126)", x.append(126), 2);
        for (int far : FAR) {
            due("append(" + far + ")", x.append(far), INVALID);
        }
        for (int i = 3; i <= 80; i++) {
            due("append " + i, x.append(48), i);
        }
        due("append the 81st", x.append(48), LIMIT);
        due("append the 81st, wrong", x.append(32), INVALID);
        due("append: count(10)", x.count(10), 80);
        due("append is no change", x.count(11), 0);
        due("fault(0) of the full pad", x.fault(0), 0);
        due("clear of the full pad", x.clear(), 80);
        due("append behind clear", x.append(48), 1);
    }

    private static void promise8Clear() {
        CrookedSums x = new CrookedSums();
        due("clear, empty", x.clear(), 0);
        type(x, "0+1");
        due("clear", x.clear(), 3);
        due("clear again", x.clear(), 0);
        due("clear: count(10)", x.count(10), 0);
        due("clear: fault(1)", x.fault(1), 0);
        due("clear is no change", x.count(11), 0);
    }

    private static void dueFault(CrookedSums x, int way, String text, int want) {
        type(x, text);
        due("fault(" + way + ") of " + text, x.fault(way), want);
        due("fault keeps the pad", x.count(10), text.length());
    }

    private static void promise9Fault() {
        CrookedSums x = begun(3, 1);
        due("fault(3)", x.fault(3), INVALID);
        for (int far : FAR) {
            due("fault(" + far + ")", x.fault(far), INVALID);
        }
        String[] tables = {"", "0", "00", "3", "012", "012/", "0121", "012/0", "012/10", "012/121", "012/120/201",
            "012/120/2011", "012/120/201/", "021/10", "012/12/", "/", "012/120/20", "012/120/21", "012//", "01a"};
        int[] tableFaults = {0, 1, 1, 0, 3, 4, 3, 4, 6, 6, NOT_FOUND, 11, 11, 6, 6, 0, 10, 9, 4, 2};
        for (int i = 0; i < tables.length; i++) {
            dueFault(x, 0, tables[i], tableFaults[i]);
        }
        String[] sums = {"", "0", "2", "3", "(", "()", "(0", "(0)", "((0))", "0+", "+0", "0+1", "0++1", "0+(1", "0+(1)",
            "00", "0(1)", "(0)1", "(0)(1)", "0)", "(0))", "(0+)", "(0+1)+2", "((0+1)+2)+(1)", "0-1", "0+3", "(((", "0+1+"};
        int[] sumFaults = {0, NOT_FOUND, NOT_FOUND, 0, 1, 1, 2, NOT_FOUND, NOT_FOUND, 2, 0, NOT_FOUND, 2, 4, NOT_FOUND,
            1, 1, 3, 3, 1, 3, 3, NOT_FOUND, NOT_FOUND, 1, 2, 3, 4};
        for (int i = 0; i < sums.length; i++) {
            dueFault(x, 1, sums[i], sumFaults[i]);
        }
        String[] rows = {"", "0", "3", "012", "0120120", "01201201", "012012012", "01+", "0121x"};
        int[] rowFaults = {0, NOT_FOUND, 0, NOT_FOUND, NOT_FOUND, 7, 7, 2, 4};
        for (int i = 0; i < rows.length; i++) {
            dueFault(x, 2, rows[i], rowFaults[i]);
        }
        CrookedSums y = begun(3, 1);
        dueFault(y, 1, "(".repeat(80), 80);
        dueFault(y, 1, "(".repeat(39) + "1" + ")".repeat(39), NOT_FOUND);
        dueFault(y, 1, "(".repeat(40) + "1" + ")".repeat(39), 80);
        dueFault(y, 1, "1" + "+1".repeat(39), NOT_FOUND);
        dueFault(y, 1, "1+".repeat(40), 80);
        dueFault(begun(8, 1), 1, "7+8", 2);
        dueFault(begun(2, 1), 0, "10/01", NOT_FOUND);
        dueFault(begun(2, 1), 2, "012", 2);
        type(x, "0011");
        x.clear();
        due("no sign of before clear counts", x.fault(2), 0);
    }

    private static void promise10Load() {
        CrookedSums x = new CrookedSums();
        due("load, empty pad", x.load(), NOT_POSSIBLE);
        type(x, "0123/1230/2301/301");
        due("load, not complete", x.load(), NOT_POSSIBLE);
        due("load that fails keeps the pad", x.count(10), 18);
        due("load that fails is no change", x.count(11), 0);
        type(x, KLEIN);
        due("load", x.load(), 4);
        dueTable("load", x, KLEIN);
        due("load empties the pad", x.count(10), 0);
        due("load is a change", x.count(11), 1);
        type(x, KLEIN);
        due("load of the same", x.load(), 0);
        due("load of the same is a change", x.count(11), 2);
        type(x, "01/10");
        due("load of another size", x.load(), NOT_POSSIBLE);
        type(x, "1032/0123/3210/2301");
        due("load, all different", x.load(), 16);
        CrookedSums y = begun(8, 1);
        due("a table of 8", type(y, XOR8), 71);
        due("load of 8", y.load(), 28);
        dueTable("load of 8", y, XOR8);
    }

    private static void promise11Value() {
        CrookedSums x = begun(7, 3);
        due("value, empty pad", x.value(), NOT_POSSIBLE);
        String[] sums = {"5", "(5)", "1+2+3", "1+(2+3)", "((1+2))+3", "6+(5+(4+3))", "1+2+(3+4)+5"};
        int[] values = {5, 5, 4, 5, 4, 6, 5};
        for (int i = 0; i < sums.length; i++) {
            type(x, sums[i]);
            due("value of " + sums[i], x.value(), values[i]);
        }
        due("value keeps the pad", x.count(10), 11);
        type(x, "1+");
        due("value of 1+", x.value(), NOT_POSSIBLE);
        type(x, "(".repeat(39) + "6" + ")".repeat(39));
        due("value in 39 brackets", x.value(), 6);
        type(x, "6");
        due("value of 6", x.value(), 6);
        x.begin(4, 1);
        due("value of 6 with four tokens", x.value(), NOT_POSSIBLE);
    }

    private static void dueStep(CrookedSums x, int step, int left, int right, int total, int place) {
        due("step " + step + " left", x.step(step, 0), left);
        due("step " + step + " right", x.step(step, 1), right);
        due("step " + step + " sum", x.step(step, 2), total);
        due("step " + step + " place", x.step(step, 3), place);
    }

    private static void promise12Step() {
        CrookedSums x = begun(7, 3);
        due("step(0, 0), empty pad", x.step(0, 0), NOT_POSSIBLE);
        due("step(-1, 0), empty pad", x.step(-1, 0), INVALID);
        type(x, "1+2+(3+4)+5");
        dueStep(x, 0, 1, 2, 5, 1);
        dueStep(x, 1, 3, 4, 6, 6);
        dueStep(x, 2, 5, 6, 0, 3);
        dueStep(x, 3, 0, 5, 5, 9);
        due("step(4, 0)", x.step(4, 0), NOT_FOUND);
        due("step(0, 4)", x.step(0, 4), INVALID);
        due("step(0, -1)", x.step(0, -1), INVALID);
        due("step(4, 4)", x.step(4, 4), INVALID);
        due("step(-1, 0)", x.step(-1, 0), INVALID);
        for (int far : FAR) {
            due("step(far, 3)", x.step(far, 3), far < 0 ? INVALID : NOT_FOUND);
            due("step(0, far)", x.step(0, far), INVALID);
        }
        type(x, "(1+(2+(3+4)))");
        dueStep(x, 0, 3, 4, 6, 8);
        dueStep(x, 1, 2, 6, 5, 5);
        dueStep(x, 2, 1, 5, 1, 2);
        type(x, "6");
        due("step(0, 0) of 6", x.step(0, 0), NOT_FOUND);
        type(x, "1" + "+1".repeat(39));
        due("the last of 39 steps", x.step(38, 3), 77);
        due("step(39, 3)", x.step(39, 3), NOT_FOUND);
        type(x, "1+7");
        due("step of a fault", x.step(0, 0), NOT_POSSIBLE);
    }

    private static void promise13Sum() {
        CrookedSums x = begun(5, 2);
        due("sum(4, 3)", x.sum(4, 3), 1);
        due("sum(3, 4)", x.sum(3, 4), 0);
        due("sum(5, 0)", x.sum(5, 0), INVALID);
        due("sum(0, 5)", x.sum(0, 5), INVALID);
        for (int far : FAR) {
            due("sum(far, 0)", x.sum(far, 0), INVALID);
            due("sum(0, far)", x.sum(0, far), INVALID);
        }
    }

    private static void promise14Between() {
        CrookedSums x = begun(5, 2);
        due("between(4, 1, false)", x.between(4, 1, false), 3);
        due("between(4, 1, true)", x.between(4, 1, true), 1);
        due("between(1, 0, false)", x.between(1, 0, false), 3);
        due("between(1, 0, true)", x.between(1, 0, true), 2);
        due("between(2, 4, false)", x.between(2, 4, false), 0);
        due("between(0, 0, true)", x.between(0, 0, true), 0);
        due("between(2, 2, true)", x.between(2, 2, true), 0);
        due("between(5, 0, true)", x.between(5, 0, true), INVALID);
        due("between(0, 5, false)", x.between(0, 5, false), INVALID);
        for (int far : FAR) {
            due("between(far, 0, true)", x.between(far, 0, true), INVALID);
            due("between(0, far, false)", x.between(0, far, false), INVALID);
        }
    }

    private static void promise15Returns() {
        CrookedSums x = begun(8, 3);
        due("returns(1, 1, true)", x.returns(1, 1, true), 8);
        due("returns(1, 1, false)", x.returns(1, 1, false), 4);
        due("returns(0, 0, true)", x.returns(0, 0, true), 1);
        due("returns(1, 0, false)", x.returns(1, 0, false), 2);
        due("returns(5, 4, true)", x.returns(5, 4, true), 2);
        due("returns(8, 0, true)", x.returns(8, 0, true), INVALID);
        due("returns(0, 8, false)", x.returns(0, 8, false), INVALID);
        for (int far : FAR) {
            due("returns(far, 0, true)", x.returns(far, 0, true), INVALID);
            due("returns(0, far, false)", x.returns(0, far, false), INVALID);
        }
    }

    private static void dueToken(CrookedSums x, int token, int... want) {
        for (int what = 0; what < want.length; what++) {
            due("token(" + token + ", " + what + ")", x.token(token, what), want[what]);
        }
    }

    private static void promise16Token() {
        CrookedSums x = loaded(5, LOOP5);
        dueToken(x, 0, 5, 25, 1, 1, 1, 1, 0, 5, 1);
        dueToken(x, 1, 2, 16, 0, 0, 2, 3, 0, 2, 6);
        CrookedSums y = begun(8, 3);
        dueToken(y, 0, 2, 64, 1, 0, 1, 1, 0, 8, 1);
        dueToken(y, 1, 2, 0, 0, 0, 8, 255, 4, 1, 8);
        dueToken(y, 4, 2, 64, 0, 0, 2, 17, 0, 4, 2);
        due("token(8, 0)", y.token(8, 0), INVALID);
        due("token(0, 9)", y.token(0, 9), INVALID);
        due("token(0, -1)", y.token(0, -1), INVALID);
        for (int far : FAR) {
            due("token(far, 0)", y.token(far, 0), INVALID);
            due("token(0, far)", y.token(0, far), INVALID);
        }
        CrookedSums z = new CrookedSums();
        z.columns(0, 1);
        due("neutral at the right", z.token(1, 3), 1);
        due("not neutral at the left", z.token(1, 2), 0);
        // The first row has a round of 3 and a round of 5.
        CrookedSums long15 = loaded(8, "12045673/34567012/67123450/23456701/45601237/70234165/56710324/01372546");
        due("rounds of 3 and 5", long15.token(0, 7), 2);
        due("all come again behind 15", long15.token(0, 8), 15);
    }

    private static void promise17Ring() {
        CrookedSums x = begun(8, 1);
        due("ring(1)", x.ring(1), 1);
        due("ring(16)", x.ring(16), 17);
        due("ring(4)", x.ring(4), 85);
        due("ring(20)", x.ring(20), 85);
        due("ring(2)", x.ring(2), 255);
        due("ring(255)", x.ring(255), 255);
        due("ring(0)", x.ring(0), INVALID);
        due("ring(256)", x.ring(256), INVALID);
        for (int far : FAR) {
            due("ring(far)", x.ring(far), INVALID);
        }
        x.begin(4, 1);
        due("ring(16) with four tokens", x.ring(16), INVALID);
        due("ring(15) with four tokens", x.ring(15), 15);
        CrookedSums idem = begun(3, 2);
        due("ring(3)", idem.ring(3), 7);
    }

    private static void promise18RingAt() {
        CrookedSums x = begun(8, 1);
        int[] rings = {1, 17, 85, 255};
        for (int i = 0; i < rings.length; i++) {
            due("ringAt(" + i + ")", x.ringAt(i), rings[i]);
        }
        due("ringAt(4)", x.ringAt(4), NOT_FOUND);
        for (int far : FAR) {
            due("ringAt(" + far + ")", x.ringAt(far), far < 0 ? INVALID : NOT_FOUND);
        }
        CrookedSums y = loaded(4, KLEIN);
        int[] more = {1, 3, 5, 9, 15};
        for (int i = 0; i < more.length; i++) {
            due("Klein: ringAt(" + i + ")", y.ringAt(i), more[i]);
        }
        due("Klein: ringAt(5)", y.ringAt(5), NOT_FOUND);
    }

    private static void dueCounts(CrookedSums x, int... want) {
        for (int what = 0; what < want.length; what++) {
            due("count(" + what + ") with " + want[0] + " tokens", x.count(what), want[what]);
        }
    }

    private static void promise19Count() {
        dueCounts(loaded(4, KLEIN), 4, 16, 64, 0, 0, 1, 5, 2, 6, 12, 0, 2);
        dueCounts(begun(5, 2), 5, 5, 25, 0, NOT_FOUND, 1, 2, 1, 2, 0, 0, 1);
        dueCounts(loaded(3, "021/210/102"), 3, 9, 9, NOT_FOUND, NOT_FOUND, 3, 4, 2, 3, 0, 0, 2);
        dueCounts(loaded(3, "120/201/012"), 3, 9, 27, 2, 2, 1, 2, 1, 1, 0, 0, 2);
        CrookedSums x = new CrookedSums();
        x.columns(0, 1);
        due("neutral at the right", x.count(4), 1);
        due("none at the left", x.count(3), NOT_FOUND);
        type(x, "abc");
        due("count(10)", x.count(10), 3);
        due("count(12)", x.count(12), INVALID);
        for (int far : FAR) {
            due("count(" + far + ")", x.count(far), INVALID);
        }
        for (int i = 0; i < 6; i++) {
            x.names(0, 1);
        }
        due("count(11) at its most", x.count(11), 4);
    }

    private static void promise20Crooked() {
        dueD("crooked of a group", new CrookedSums().crooked(), 0.0);
        dueD("crooked of begin(8, 3)", begun(8, 3).crooked(), 0.75);
        dueD("crooked of begin(3, 2)", begun(3, 2).crooked(), 18.0 / 27.0);
        dueD("crooked of begin(7, 3)", begun(7, 3).crooked(), 294.0 / 343.0);
    }

    private static void promise21Ways() {
        CrookedSums x = begun(7, 3);
        due("ways(0, 0), empty pad", x.ways(0, 0), NOT_POSSIBLE);
        due("ways(7, 0), empty pad", x.ways(7, 0), INVALID);
        type(x, "123");
        for (int way = 0; way <= 1; way++) {
            for (int token = 0; token < 7; token++) {
                due("ways(" + token + ", " + way + ") of 123", x.ways(token, way), token == 4 || token == 5 ? 1 : 0);
            }
        }
        due("ways(0, 2)", x.ways(0, 2), INVALID);
        due("ways(0, -1)", x.ways(0, -1), INVALID);
        due("ways(7, 0)", x.ways(7, 0), INVALID);
        for (int far : FAR) {
            due("ways(far, 0)", x.ways(far, 0), INVALID);
            due("ways(0, far)", x.ways(0, far), INVALID);
        }
        type(x, "6");
        due("ways(6, 0) of 6", x.ways(6, 0), 1);
        due("ways(6, 1) of 6", x.ways(6, 1), 1);
        due("ways(5, 1) of 6", x.ways(5, 1), 0);
        CrookedSums y = begun(8, 1);
        type(y, "1234567");
        due("ways(4, 0) of seven", y.ways(4, 0), 132);
        due("ways(4, 1) of seven", y.ways(4, 1), 132);
        type(y, "12345678");
        due("ways of eight", y.ways(4, 1), NOT_POSSIBLE);
        type(x, "1111111");
        int together = 0;
        for (int token = 0; token < 7; token++) {
            due("both ways tell the same", x.ways(token, 0), x.ways(token, 1));
            together += x.ways(token, 1);
        }
        due("all ways", together, 132);
    }

    private static void promise22Sums() {
        CrookedSums x = begun(7, 3);
        due("sums(0), empty pad", x.sums(0), NOT_POSSIBLE);
        due("sums(4), empty pad", x.sums(4), INVALID);
        type(x, "123");
        due("sums(0) of 123", x.sums(0), 48);
        due("sums(1) of 123", x.sums(1), 4);
        due("sums(2) of 123", x.sums(2), 5);
        due("sums(3) of 123", x.sums(3), 4);
        type(x, "5");
        int[] one = {32, 5, 5, 5};
        for (int what = 0; what < 4; what++) {
            due("sums(" + what + ") of 5", x.sums(what), one[what]);
        }
        type(x, "1111111");
        due("most ways", x.sums(3), 2);
        due("so many", x.ways(2, 1), 24);
        for (int far : FAR) {
            due("sums(far)", x.sums(far), INVALID);
        }
        CrookedSums two = begun(2, 1);
        int[][] twoSums = {{1, 0, 0, 0}, {2, 1, 1, 1}};
        for (int what = 0; what < 4; what++) {
            type(two, "11");
            due("sums(" + what + ") of 11", two.sums(what), twoSums[0][what]);
            type(two, "111");
            due("sums(" + what + ") of 111", two.sums(what), twoSums[1][what]);
        }
        type(x, "1+1");
        due("sums of a fault", x.sums(1), NOT_POSSIBLE);
    }

    private static void promise23Cut() {
        CrookedSums x = begun(7, 3);
        due("cut(0), empty pad", x.cut(0), NOT_POSSIBLE);
        due("cut(7), empty pad", x.cut(7), INVALID);
        type(x, "123");
        due("cut(5) of 123", x.cut(5), 1);
        due("cut(4) of 123", x.cut(4), 2);
        due("cut(3) of 123", x.cut(3), NOT_FOUND);
        type(x, "5");
        due("cut(5) of 5", x.cut(5), NOT_FOUND);
        due("cut(-1)", x.cut(-1), INVALID);
        for (int far : FAR) {
            due("cut(far)", x.cut(far), INVALID);
        }
        type(x, "57");
        due("cut of a fault", x.cut(0), NOT_POSSIBLE);
        CrookedSums y = begun(3, 2);
        type(y, "1011");
        due("cut(0) of 1011", y.cut(0), NOT_FOUND);
        due("cut(1) of 1011", y.cut(1), 2);
        due("cut(2) of 1011", y.cut(2), 1);
        type(y, "00");
        due("cut(0) of 00", y.cut(0), 1);
    }

    private static void promise24IfSwapped() {
        CrookedSums x = new CrookedSums();
        due("ifSwapped, commuting", x.ifSwapped(0, 2, 1, 3, 0), 8);
        due("ifSwapped, associating", x.ifSwapped(2, 0, 3, 1, 1), 32);
        due("ifSwapped, rings", x.ifSwapped(0, 2, 1, 3, 2), 3);
        dueTable("ifSwapped changes nothing", x, "0123/1230/2301/3012");
        due("ifSwapped is no change", x.count(11), 0);
        due("ifSwapped, no square", x.ifSwapped(0, 1, 0, 1, 0), NOT_POSSIBLE);
        due("ifSwapped, what 3", x.ifSwapped(0, 2, 1, 3, 3), INVALID);
        due("ifSwapped, what 3, no square", x.ifSwapped(0, 1, 0, 1, 3), INVALID);
        due("ifSwapped, what -1", x.ifSwapped(0, 2, 1, 3, -1), INVALID);
        due("ifSwapped, same rows", x.ifSwapped(2, 2, 1, 3, 0), INVALID);
        due("ifSwapped, same columns", x.ifSwapped(0, 2, 3, 3, 0), INVALID);
        for (int far : FAR) {
            due("ifSwapped far a", x.ifSwapped(far, 2, 1, 3, 0), INVALID);
            due("ifSwapped far b", x.ifSwapped(0, far, 1, 3, 0), INVALID);
            due("ifSwapped far c", x.ifSwapped(0, 2, far, 3, 0), INVALID);
            due("ifSwapped far d", x.ifSwapped(0, 2, 1, far, 0), INVALID);
            due("ifSwapped far what", x.ifSwapped(0, 2, 1, 3, far), INVALID);
        }
        due("ifSwapped, token 4", x.ifSwapped(0, 4, 1, 3, 0), INVALID);
    }

    private static void promise25Best() {
        CrookedSums x = new CrookedSums();
        int[] klein = {1, 3, 1, 3, 64};
        for (int what = 0; what < 5; what++) {
            due("best(" + what + ") of a new object", x.best(what), klein[what]);
        }
        // Three squares of this table give 64 triples, and four of the other one give 53: the first is told.
        int[] tied = {1, 2, 1, 2, 64};
        int[] tied5 = {0, 1, 0, 1, 53};
        for (int what = 0; what < 5; what++) {
            due("best(" + what + ") of several", loaded(4, KLEIN).best(what), tied[what]);
            due("best(" + what + ") of several, 5", loaded(5, LOOP5).best(what), tied5[what]);
        }
        due("best is no change", x.count(11), 0);
        dueTable("best changes nothing", x, "0123/1230/2301/3012");
        due("best(5)", x.best(5), INVALID);
        due("best(-1)", x.best(-1), INVALID);
        for (int far : FAR) {
            due("best(far)", x.best(far), INVALID);
        }
        x.begin(5, 1);
        due("best(0) without a square", x.best(0), NOT_FOUND);
        due("best(4) without a square", x.best(4), NOT_FOUND);
        due("best(5) without a square", x.best(5), INVALID);
        x.begin(2, 1);
        int[] two = {0, 1, 0, 1, 8};
        for (int what = 0; what < 5; what++) {
            due("best(" + what + ") of two tokens", x.best(what), two[what]);
        }
    }

    private static void promise26Undo() {
        CrookedSums x = new CrookedSums();
        x.begin(3, 1);
        x.rows(0, 1);
        type(x, "12");
        due("undo", x.undo(), 1);
        dueTable("undo", x, "012/120/201");
        due("undo keeps the pad", x.count(10), 2);
        due("undo again", x.undo(), 0);
        dueTable("undo again", x, "0123/1230/2301/3012");
        due("undo without a state", x.undo(), NOT_POSSIBLE);
        for (int tokens = 2; tokens <= 8; tokens++) {
            x.begin(tokens, 1);
        }
        int[] tokens = {7, 6, 5, 4};
        for (int i = 0; i < 4; i++) {
            due("undo " + i, x.undo(), 3 - i);
            due("undo " + i + ": tokens", x.count(0), tokens[i]);
        }
        due("the oldest were dropped", x.undo(), NOT_POSSIBLE);
        due("tokens then", x.count(0), 4);
        x.save();
        x.swap(0, 2, 1, 3);
        x.restore();
        due("undo of restore", x.undo(), 1);
        dueTable("undo of restore", x, "0321/1230/2103/3012");
        due("undo of swap", x.undo(), 0);
        dueTable("undo of swap", x, "0123/1230/2301/3012");
        type(x, KLEIN);
        x.load();
        due("undo of load", x.undo(), 0);
        due("undo of load leaves the pad empty", x.count(10), 0);
        dueTable("undo of load", x, "0123/1230/2301/3012");
        due("the snapshot stays", x.restore(), 4);
    }

    private static void promise27Save() {
        CrookedSums x = begun(5, 2);
        due("save", x.save(), 5);
        due("save is no change", x.count(11), 1);
        x.begin(3, 1);
        due("save of three", x.save(), 3);
        x.begin(8, 1);
        due("restore of the newer one", x.restore(), 3);
        dueTable("restore of the newer one", x, "012/120/201");
        x.undo();
        x.undo();
        x.undo();
        due("undo leaves the snapshot", x.restore(), 3);
    }

    private static void promise28Restore() {
        CrookedSums x = new CrookedSums();
        due("restore without one", x.restore(), NOT_POSSIBLE);
        due("restore that fails is no change", x.count(11), 0);
        x.rows(1, 2);
        x.save();
        x.begin(6, 5);
        type(x, "12345");
        due("restore", x.restore(), 4);
        dueTable("restore", x, "0123/2301/1230/3012");
        due("restore keeps the pad", x.count(10), 5);
        due("restore is a change", x.count(11), 3);
        due("restore again", x.restore(), 4);
        due("restore again is a change", x.count(11), 4);
        due("undo of restore", x.undo(), 3);
        dueTable("undo of the second restore", x, "0123/2301/1230/3012");
        due("undo of restore", x.undo(), 2);
        due("tokens then", x.count(0), 6);
        x.names(0, 1);
        due("the snapshot stays", x.restore(), 4);
        dueTable("the snapshot stays", x, "0123/2301/1230/3012");
    }

    public static void main(String[] args) {
        promise1NewObject();
        promise2Begin();
        promise3Rows();
        promise4Columns();
        promise5Names();
        promise6Swap();
        promise7Append();
        promise8Clear();
        promise9Fault();
        promise10Load();
        promise11Value();
        promise12Step();
        promise13Sum();
        promise14Between();
        promise15Returns();
        promise16Token();
        promise17Ring();
        promise18RingAt();
        promise19Count();
        promise20Crooked();
        promise21Ways();
        promise22Sums();
        promise23Cut();
        promise24IfSwapped();
        promise25Best();
        promise26Undo();
        promise27Save();
        promise28Restore();
        tellAndExit();
    }
}
