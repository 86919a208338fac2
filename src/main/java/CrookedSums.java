/**
 * Tokens under a crooked sum: a table in which each token comes once in each row and each column,
 * with its returns, rings, brackets, little squares and texts. Errors are told by negative numbers.
 */
public final class CrookedSums {
    public static final int INVALID_ARGUMENT = -1;
    public static final int NOT_POSSIBLE = -2;
    public static final int LIMIT_REACHED = -3;
    public static final int NOT_FOUND = -4;

    private static final int LEAST_TOKENS = 2;
    private static final int MOST_TOKENS = 8;
    private static final int FIRST_TOKENS = 4;
    private static final int MOST_CROOK = 7;
    private static final int FIRST_SIGN = 33;
    private static final int LAST_SIGN = 126;
    private static final int SWAP_BASE = 1000;

    private final Table table = new Table();
    private final Table saved = new Table();
    private final Table trial = new Table();
    private final History history = new History();
    private final Pad pad = new Pad();
    private final SumText sumText = new SumText();
    private final RowText rowText = new RowText();
    private final Squares squares = new Squares();
    private boolean hasSaved;

    public CrookedSums() {
        table.makeNew(FIRST_TOKENS, 1);
    }

    // ---- the table

    public int begin(int tokens, int crook) {
        if (!isWithin(tokens, LEAST_TOKENS, MOST_TOKENS) || !isWithin(crook, 1, MOST_CROOK)
                || haveCommonDivisor(tokens, crook)) {
            return INVALID_ARGUMENT;
        }
        history.record(table);
        table.makeNew(tokens, crook);
        return Words.associatingTriples(table);
    }

    public int rows(int a, int b) {
        if (!areUnlikeTokens(a, b)) {
            return INVALID_ARGUMENT;
        }
        trial.copyFrom(table);
        trial.exchangeRows(a, b);
        return changeToTrial();
    }

    public int columns(int a, int b) {
        if (!areUnlikeTokens(a, b)) {
            return INVALID_ARGUMENT;
        }
        trial.copyFrom(table);
        trial.exchangeColumns(a, b);
        return changeToTrial();
    }

    public int names(int a, int b) {
        if (!areUnlikeTokens(a, b)) {
            return INVALID_ARGUMENT;
        }
        trial.copyFrom(table);
        trial.exchangeNames(a, b);
        return changeToTrial();
    }

    public int swap(int a, int b, int c, int d) {
        if (!areUnlikeTokens(a, b) || !areUnlikeTokens(c, d)) {
            return INVALID_ARGUMENT;
        }
        if (!table.isLittleSquare(a, b, c, d)) {
            return NOT_POSSIBLE;
        }
        int before = Words.associatingTriples(table);
        history.record(table);
        table.swapSquare(a, b, c, d);
        return SWAP_BASE + Words.associatingTriples(table) - before;
    }

    // ---- texts

    public int append(int code) {
        if (!isWithin(code, FIRST_SIGN, LAST_SIGN)) {
            return INVALID_ARGUMENT;
        }
        return pad.add((char) code) ? pad.length() : LIMIT_REACHED;
    }

    public int clear() {
        int had = pad.length();
        pad.wipe();
        return had;
    }

    public int fault(int way) {
        switch (way) {
            case 0:
                return trial.readFrom(pad, table.size());
            case 1:
                return sumText.readFrom(pad, table);
            case 2:
                return rowText.readFrom(pad, table);
            default:
                return INVALID_ARGUMENT;
        }
    }

    public int load() {
        if (trial.readFrom(pad, table.size()) != NOT_FOUND) {
            return NOT_POSSIBLE;
        }
        pad.wipe();
        return changeToTrial();
    }

    public int value() {
        if (sumText.readFrom(pad, table) != NOT_FOUND) {
            return NOT_POSSIBLE;
        }
        return sumText.total();
    }

    public int step(int step, int what) {
        if (step < 0 || !isWithin(what, 0, 3)) {
            return INVALID_ARGUMENT;
        }
        if (sumText.readFrom(pad, table) != NOT_FOUND) {
            return NOT_POSSIBLE;
        }
        return sumText.stepAt(step, what);
    }

    // ---- looks; nothing is changed

    public int sum(int a, int b) {
        if (!table.has(a) || !table.has(b)) {
            return INVALID_ARGUMENT;
        }
        return table.at(a, b);
    }

    public int between(int a, int b, boolean atLeft) {
        if (!table.has(a) || !table.has(b)) {
            return INVALID_ARGUMENT;
        }
        return Turns.addedBetween(table, a, b, atLeft);
    }

    public int returns(int s, int a, boolean atLeft) {
        if (!table.has(s) || !table.has(a)) {
            return INVALID_ARGUMENT;
        }
        return Turns.timesToReturn(table, s, a, atLeft);
    }

    public int token(int token, int what) {
        if (!table.has(token)) {
            return INVALID_ARGUMENT;
        }
        switch (what) {
            case 0:
                return Words.commutingWith(table, token);
            case 1:
                return Words.pairsBehind(table, token);
            case 2:
                return Words.isNeutral(table, token, true) ? 1 : 0;
            case 3:
                return Words.isNeutral(table, token, false) ? 1 : 0;
            case 4:
                return Integer.bitCount(Rings.grownFrom(table, 1 << token));
            case 5:
                return Rings.grownFrom(table, 1 << token);
            case 6:
                return table.at(token, token);
            case 7:
                return Turns.rounds(table, token);
            case 8:
                return Turns.timesToReturnAll(table, token);
            default:
                return INVALID_ARGUMENT;
        }
    }

    public int ring(int seeds) {
        if (!isWithin(seeds, 1, table.allBits())) {
            return INVALID_ARGUMENT;
        }
        return Rings.grownFrom(table, seeds);
    }

    public int ringAt(int place) {
        if (place < 0) {
            return INVALID_ARGUMENT;
        }
        return Rings.atPlace(table, place);
    }

    public int count(int what) {
        switch (what) {
            case 0:
                return table.size();
            case 1:
                return Words.commutingPairs(table);
            case 2:
                return Words.associatingTriples(table);
            case 3:
                return Words.neutralToken(table, true);
            case 4:
                return Words.neutralToken(table, false);
            case 5:
                return Words.selfSums(table);
            case 6:
                return Rings.howMany(table);
            case 7:
                return Integer.bitCount(Rings.leastSeeds(table));
            case 8:
                return Rings.leastSeeds(table);
            case 9:
                return squares.howMany(table);
            case 10:
                return pad.length();
            case 11:
                return history.states();
            default:
                return INVALID_ARGUMENT;
        }
    }

    public double crooked() {
        int size = table.size();
        int all = size * size * size;
        if (all <= 0) {
            return 0.0;
        }
        return (double) (all - Words.associatingTriples(table)) / (double) all;
    }

    // ---- brackets; nothing is changed

    public int ways(int token, int way) {
        if (!table.has(token) || !isWithin(way, 0, 1)) {
            return INVALID_ARGUMENT;
        }
        if (rowText.readFrom(pad, table) != NOT_FOUND) {
            return NOT_POSSIBLE;
        }
        return way == 0 ? rowText.waysByParts(table, token) : rowText.waysOneByOne(table, token);
    }

    public int sums(int what) {
        if (!isWithin(what, 0, 3)) {
            return INVALID_ARGUMENT;
        }
        if (rowText.readFrom(pad, table) != NOT_FOUND) {
            return NOT_POSSIBLE;
        }
        switch (what) {
            case 0:
                return rowText.possibleSums(table);
            case 1:
                return rowText.sumFromLeft(table);
            case 2:
                return rowText.sumFromRight(table);
            default:
                return rowText.likeliestSum(table);
        }
    }

    public int cut(int token) {
        if (!table.has(token)) {
            return INVALID_ARGUMENT;
        }
        if (rowText.readFrom(pad, table) != NOT_FOUND) {
            return NOT_POSSIBLE;
        }
        return rowText.firstCut(table, token);
    }

    // ---- what would be; nothing is changed

    public int ifSwapped(int a, int b, int c, int d, int what) {
        if (!areUnlikeTokens(a, b) || !areUnlikeTokens(c, d) || !isWithin(what, 0, 2)) {
            return INVALID_ARGUMENT;
        }
        if (!table.isLittleSquare(a, b, c, d)) {
            return NOT_POSSIBLE;
        }
        trial.copyFrom(table);
        trial.swapSquare(a, b, c, d);
        switch (what) {
            case 0:
                return Words.commutingPairs(trial);
            case 1:
                return Words.associatingTriples(trial);
            default:
                return Rings.howMany(trial);
        }
    }

    public int best(int what) {
        if (!isWithin(what, 0, 4)) {
            return INVALID_ARGUMENT;
        }
        return squares.findBest(table) ? squares.tellBest(what) : NOT_FOUND;
    }

    // ---- history, snapshot

    public int undo() {
        return history.takeBack(table) ? history.states() : NOT_POSSIBLE;
    }

    public int save() {
        saved.copyFrom(table);
        hasSaved = true;
        return table.size();
    }

    public int restore() {
        if (!hasSaved) {
            return NOT_POSSIBLE;
        }
        history.record(table);
        table.copyFrom(saved);
        return table.size();
    }

    // ---- helpers

    /** Makes the trial table the table, as a change; tells how many sums are different then. */
    private int changeToTrial() {
        int different = table.differencesTo(trial);
        history.record(table);
        table.copyFrom(trial);
        return different;
    }

    private boolean areUnlikeTokens(int a, int b) {
        return a != b && table.has(a) && table.has(b);
    }

    private static boolean isWithin(int number, int least, int most) {
        return number >= least && number <= most;
    }

    private static boolean haveCommonDivisor(int a, int b) {
        for (int divisor = 2; divisor <= MOST_TOKENS; divisor++) {
            if (a % divisor == 0 && b % divisor == 0) {
                return true;
            }
        }
        return false;
    }

    private static boolean hasBit(int set, int token) {
        return (set >> token & 1) == 1;
    }

    /** Tests the index, so that no reader of a row can make the machine throw; put does likewise. */
    private static int get(int[] row, int place) {
        return place >= 0 && place < row.length ? row[place] : 0;
    }

    private static void put(int[] row, int place, int number) {
        if (place >= 0 && place < row.length) {
            row[place] = number;
        }
    }

    /** The sums of each two tokens; all rows are kept MOST_TOKENS apart, however many tokens there are. */
    private static final class Table {
        private final int[] cells = new int[MOST_TOKENS * MOST_TOKENS];
        private int size;

        Table() {
        }

        int size() {
            return size;
        }

        boolean has(int token) {
            return token >= 0 && token < size;
        }

        int allBits() {
            return (1 << size) - 1;
        }

        int at(int a, int b) {
            int place = a * MOST_TOKENS + b;
            return place >= 0 && place < cells.length ? cells[place] : 0;
        }

        void set(int a, int b, int sum) {
            put(cells, a * MOST_TOKENS + b, sum);
        }

        void makeNew(int tokens, int crook) {
            if (tokens <= 0) {
                return;
            }
            size = tokens;
            for (int a = 0; a < size; a++) {
                for (int b = 0; b < size; b++) {
                    set(a, b, (crook * a + b) % tokens);
                }
            }
        }

        void copyFrom(Table other) {
            size = other.size;
            for (int i = 0; i < cells.length; i++) {
                put(cells, i, get(other.cells, i));
            }
        }

        int differencesTo(Table other) {
            int different = 0;
            for (int a = 0; a < size; a++) {
                for (int b = 0; b < size; b++) {
                    if (at(a, b) != other.at(a, b)) {
                        different++;
                    }
                }
            }
            return different;
        }

        void exchangeRows(int a, int b) {
            for (int x = 0; x < size; x++) {
                exchange(a, x, b, x);
            }
        }

        void exchangeColumns(int a, int b) {
            for (int x = 0; x < size; x++) {
                exchange(x, a, x, b);
            }
        }

        void exchangeNames(int a, int b) {
            for (int x = 0; x < size; x++) {
                for (int y = 0; y < size; y++) {
                    int sum = at(x, y);
                    set(x, y, sum == a ? b : sum == b ? a : sum);
                }
            }
        }

        boolean isLittleSquare(int a, int b, int c, int d) {
            return at(a, c) == at(b, d) && at(a, d) == at(b, c);
        }

        void swapSquare(int a, int b, int c, int d) {
            exchange(a, c, a, d);
            exchange(b, c, b, d);
        }

        private void exchange(int a, int b, int c, int d) {
            int former = at(a, b);
            set(a, b, at(c, d));
            set(c, d, former);
        }

        /** Reads the pad as a table of so many tokens; tells the fault, or NOT_FOUND if it has none. */
        int readFrom(Pad pad, int tokens) {
            size = tokens;
            int place = 0;
            for (int a = 0; a < size; a++) {
                if (a > 0) {
                    if (pad.signAt(place) != '/') {
                        return place;
                    }
                    place++;
                }
                for (int b = 0; b < size; b++) {
                    int token = pad.digitAt(place);
                    if (!has(token) || isTaken(a, b, token)) {
                        return place;
                    }
                    set(a, b, token);
                    place++;
                }
            }
            return place < pad.length() ? place : NOT_FOUND;
        }

        private boolean isTaken(int a, int b, int token) {
            for (int x = 0; x < b; x++) {
                if (at(a, x) == token) {
                    return true;
                }
            }
            for (int x = 0; x < a; x++) {
                if (at(x, b) == token) {
                    return true;
                }
            }
            return false;
        }
    }

    /** Which tokens of a table commute, associate, or change nothing. */
    private static final class Words {
        private Words() {
        }

        static int commutingWith(Table table, int a) {
            int found = 0;
            for (int b = 0; b < table.size(); b++) {
                if (table.at(a, b) == table.at(b, a)) {
                    found++;
                }
            }
            return found;
        }

        static int commutingPairs(Table table) {
            int found = 0;
            for (int a = 0; a < table.size(); a++) {
                found += commutingWith(table, a);
            }
            return found;
        }

        static int pairsBehind(Table table, int a) {
            int size = table.size();
            int found = 0;
            for (int b = 0; b < size; b++) {
                int former = table.at(a, b);
                for (int c = 0; c < size; c++) {
                    if (table.at(former, c) == table.at(a, table.at(b, c))) {
                        found++;
                    }
                }
            }
            return found;
        }

        static int associatingTriples(Table table) {
            int found = 0;
            for (int a = 0; a < table.size(); a++) {
                found += pairsBehind(table, a);
            }
            return found;
        }

        static boolean isNeutral(Table table, int e, boolean atLeft) {
            for (int x = 0; x < table.size(); x++) {
                int sum = atLeft ? table.at(e, x) : table.at(x, e);
                if (sum != x) {
                    return false;
                }
            }
            return true;
        }

        static int neutralToken(Table table, boolean atLeft) {
            for (int e = 0; e < table.size(); e++) {
                if (isNeutral(table, e, atLeft)) {
                    return e;
                }
            }
            return NOT_FOUND;
        }

        static int selfSums(Table table) {
            int found = 0;
            for (int a = 0; a < table.size(); a++) {
                if (table.at(a, a) == a) {
                    found++;
                }
            }
            return found;
        }
    }

    /** What comes if a token is added again and again, or once. */
    private static final class Turns {
        // The least common multiple of 1 to 8: behind so many turns rounds of all lengths are complete.
        private static final int MOST_TURNS = 840;

        private Turns() {
        }

        private static int added(Table table, int s, int a, boolean atLeft) {
            return atLeft ? table.at(a, s) : table.at(s, a);
        }

        static int addedBetween(Table table, int a, int b, boolean atLeft) {
            for (int x = 0; x < table.size(); x++) {
                if (added(table, a, x, atLeft) == b) {
                    return x;
                }
            }
            return NOT_FOUND;
        }

        static int timesToReturn(Table table, int s, int a, boolean atLeft) {
            int now = s;
            for (int times = 1; times <= MOST_TOKENS; times++) {
                now = added(table, now, a, atLeft);
                if (now == s) {
                    return times;
                }
            }
            return NOT_FOUND;
        }

        /** Each round is counted once, at its least token. */
        static int rounds(Table table, int a) {
            int found = 0;
            for (int s = 0; s < table.size(); s++) {
                if (isLeastOfRound(table, s, a)) {
                    found++;
                }
            }
            return found;
        }

        private static boolean isLeastOfRound(Table table, int s, int a) {
            int now = s;
            for (int times = 0; times < MOST_TOKENS; times++) {
                now = table.at(a, now);
                if (now < s) {
                    return false;
                }
            }
            return true;
        }

        static int timesToReturnAll(Table table, int a) {
            for (int times = 1; times <= MOST_TURNS; times++) {
                if (allReturnBehind(table, a, times)) {
                    return times;
                }
            }
            return NOT_FOUND;
        }

        private static boolean allReturnBehind(Table table, int a, int times) {
            for (int s = 0; s < table.size(); s++) {
                int round = timesToReturn(table, s, a, true);
                if (round <= 0 || times % round != 0) {
                    return false;
                }
            }
            return true;
        }
    }

    /** Sets of tokens that have the sums of all their tokens; sets are told as bits. */
    private static final class Rings {
        private Rings() {
        }

        static int grownFrom(Table table, int seeds) {
            int set = seeds;
            for (int round = 0; round < MOST_TOKENS; round++) {
                int grown = withSums(table, set);
                if (grown == set) {
                    return set;
                }
                set = grown;
            }
            return set;
        }

        private static int withSums(Table table, int set) {
            int size = table.size();
            int grown = set;
            for (int a = 0; a < size; a++) {
                if (!hasBit(set, a)) {
                    continue;
                }
                for (int b = 0; b < size; b++) {
                    if (hasBit(set, b)) {
                        grown |= 1 << table.at(a, b);
                    }
                }
            }
            return grown;
        }

        private static boolean isRing(Table table, int set) {
            return withSums(table, set) == set;
        }

        static int howMany(Table table) {
            int found = 0;
            for (int set = 1; set <= table.allBits(); set++) {
                if (isRing(table, set)) {
                    found++;
                }
            }
            return found;
        }

        static int atPlace(Table table, int place) {
            int before = 0;
            for (int set = 1; set <= table.allBits(); set++) {
                if (isRing(table, set)) {
                    if (before == place) {
                        return set;
                    }
                    before++;
                }
            }
            return NOT_FOUND;
        }

        /** The least set of the fewest seeds: the sets come in order, so only fewer seeds are better. */
        static int leastSeeds(Table table) {
            int all = table.allBits();
            int least = all;
            for (int set = 1; set <= all; set++) {
                if (Integer.bitCount(set) < Integer.bitCount(least) && grownFrom(table, set) == all) {
                    least = set;
                }
            }
            return least;
        }
    }

    /** Looks at all little squares of a table, and keeps the best one that it found last. */
    private static final class Squares {
        private final Table swapped = new Table();
        private int lesserRow;
        private int greaterRow;
        private int lesserColumn;
        private int greaterColumn;
        private int mostTriples;

        Squares() {
        }

        int howMany(Table table) {
            int size = table.size();
            int found = 0;
            for (int a = 0; a < size; a++) {
                for (int b = a + 1; b < size; b++) {
                    found += howManyInRows(table, a, b);
                }
            }
            return found;
        }

        private static int howManyInRows(Table table, int a, int b) {
            int size = table.size();
            int found = 0;
            for (int c = 0; c < size; c++) {
                for (int d = c + 1; d < size; d++) {
                    if (table.isLittleSquare(a, b, c, d)) {
                        found++;
                    }
                }
            }
            return found;
        }

        /** The squares come in order, so of several best ones the first stays. */
        boolean findBest(Table table) {
            int size = table.size();
            mostTriples = NOT_FOUND;
            swapped.copyFrom(table);
            for (int a = 0; a < size; a++) {
                for (int b = a + 1; b < size; b++) {
                    findBestInRows(a, b);
                }
            }
            return mostTriples != NOT_FOUND;
        }

        private void findBestInRows(int a, int b) {
            int size = swapped.size();
            for (int c = 0; c < size; c++) {
                for (int d = c + 1; d < size; d++) {
                    if (swapped.isLittleSquare(a, b, c, d)) {
                        tryOut(a, b, c, d);
                    }
                }
            }
        }

        /** A little square is one after its swap too, so that swapping again gives the table back. */
        private void tryOut(int a, int b, int c, int d) {
            swapped.swapSquare(a, b, c, d);
            int triples = Words.associatingTriples(swapped);
            swapped.swapSquare(a, b, c, d);
            if (triples > mostTriples) {
                mostTriples = triples;
                lesserRow = a;
                greaterRow = b;
                lesserColumn = c;
                greaterColumn = d;
            }
        }

        int tellBest(int what) {
            switch (what) {
                case 0:
                    return lesserRow;
                case 1:
                    return greaterRow;
                case 2:
                    return lesserColumn;
                case 3:
                    return greaterColumn;
                default:
                    return mostTriples;
            }
        }
    }

    /** The states before the latest changes, the oldest first. */
    private static final class History {
        private static final int MOST_STATES = 4;

        private final Table[] kept = new Table[MOST_STATES];
        private int states;

        History() {
            for (int i = 0; i < kept.length; i++) {
                kept[i] = new Table();
            }
        }

        int states() {
            return states;
        }

        void record(Table table) {
            if (states >= MOST_STATES) {
                dropOldest();
            }
            Table state = stateAt(states);
            if (state != null) {
                state.copyFrom(table);
                states++;
            }
        }

        boolean takeBack(Table table) {
            Table state = stateAt(states - 1);
            if (state == null) {
                return false;
            }
            table.copyFrom(state);
            states--;
            return true;
        }

        private Table stateAt(int place) {
            return place >= 0 && place < kept.length ? kept[place] : null;
        }

        /** The dropped state's table goes to the end, to be used again. */
        private void dropOldest() {
            Table oldest = stateAt(0);
            for (int i = 1; i < kept.length; i++) {
                kept[i - 1] = kept[i];
            }
            if (kept.length > 0) {
                kept[kept.length - 1] = oldest;
            }
            states--;
        }
    }

    /** The characters that were appended. */
    private static final class Pad {
        private static final int MOST_SIGNS = 80;
        private static final char NO_SIGN = 0;

        private final char[] signs = new char[MOST_SIGNS];
        private int length;

        Pad() {
        }

        int length() {
            return length;
        }

        boolean add(char sign) {
            if (length < 0 || length >= signs.length) {
                return false;
            }
            signs[length] = sign;
            length++;
            return true;
        }

        void wipe() {
            length = 0;
        }

        char signAt(int place) {
            return place >= 0 && place < length && place < signs.length ? signs[place] : NO_SIGN;
        }

        /** Behind the end of the pad, and for a sign that is no digit, this is no token's number. */
        int digitAt(int place) {
            return signAt(place) - '0';
        }
    }

    /**
     * Reads a sum with brackets from the left to the right. A "+" is summed when its right thing is
     * complete: that puts the steps in their order.
     */
    private static final class SumText {
        private static final int MOST_STEPS = 80;
        private static final int MOST_DEPTH = 81;
        private static final int NOTHING = -1;

        private final int[] soFar = new int[MOST_DEPTH];
        private final int[] waitingPlus = new int[MOST_DEPTH];
        private final int[] lefts = new int[MOST_STEPS];
        private final int[] rights = new int[MOST_STEPS];
        private final int[] totals = new int[MOST_STEPS];
        private final int[] places = new int[MOST_STEPS];
        private int depth;
        private int steps;
        private boolean wantsThing;

        SumText() {
        }

        /** Tells the fault, or NOT_FOUND if it has none. */
        int readFrom(Pad pad, Table table) {
            depth = 0;
            steps = 0;
            wantsThing = true;
            put(soFar, 0, NOTHING);
            for (int i = 0; i < pad.length(); i++) {
                boolean fits = wantsThing ? takeThing(pad, i, table) : takeJoint(pad, i, table);
                if (!fits) {
                    return i;
                }
            }
            return wantsThing || depth > 0 ? pad.length() : NOT_FOUND;
        }

        int total() {
            return get(soFar, 0);
        }

        int stepAt(int step, int what) {
            if (step < 0 || step >= steps) {
                return NOT_FOUND;
            }
            switch (what) {
                case 0:
                    return get(lefts, step);
                case 1:
                    return get(rights, step);
                case 2:
                    return get(totals, step);
                default:
                    return get(places, step);
            }
        }

        private boolean takeThing(Pad pad, int place, Table table) {
            if (pad.signAt(place) == '(') {
                depth++;
                put(soFar, depth, NOTHING);
                return true;
            }
            int token = pad.digitAt(place);
            if (!table.has(token)) {
                return false;
            }
            join(token, table);
            wantsThing = false;
            return true;
        }

        private boolean takeJoint(Pad pad, int place, Table table) {
            char sign = pad.signAt(place);
            if (sign == '+') {
                put(waitingPlus, depth, place);
                wantsThing = true;
                return true;
            }
            if (sign != ')' || depth <= 0) {
                return false;
            }
            int inner = get(soFar, depth);
            depth--;
            join(inner, table);
            return true;
        }

        private void join(int right, Table table) {
            int left = get(soFar, depth);
            if (left == NOTHING) {
                put(soFar, depth, right);
                return;
            }
            int total = table.at(left, right);
            put(lefts, steps, left);
            put(rights, steps, right);
            put(totals, steps, total);
            put(places, steps, get(waitingPlus, depth));
            put(soFar, depth, total);
            steps++;
        }
    }

    /** A row of tokens, with the sums of all its parts and all its brackets. */
    private static final class RowText {
        private static final int MOST_LENGTH = 7;
        // In how many ways a row of so many tokens can be summed.
        private static final int[] WAYS = {0, 1, 1, 2, 5, 14, 42, 132};

        private final int[] row = new int[MOST_LENGTH];
        // For each first place, length and token, in how many ways that part comes to the token.
        private final int[] parts = new int[MOST_LENGTH * (MOST_LENGTH + 1) * MOST_TOKENS];
        private int length;

        RowText() {
        }

        /** Tells the fault, or NOT_FOUND if it has none. */
        int readFrom(Pad pad, Table table) {
            length = 0;
            for (int i = 0; i < pad.length(); i++) {
                int token = pad.digitAt(i);
                if (i >= MOST_LENGTH || !table.has(token)) {
                    return i;
                }
                put(row, i, token);
                length++;
            }
            return length == 0 ? 0 : NOT_FOUND;
        }

        int waysByParts(Table table, int token) {
            sumParts(table);
            return partWays(0, length, token);
        }

        int waysOneByOne(Table table, int token) {
            int all = get(WAYS, length);
            int found = 0;
            for (int way = 0; way < all; way++) {
                if (sumOfWay(row, table, 0, length, way) == token) {
                    found++;
                }
            }
            return found;
        }

        /**
         * The sum of one way, told by its number: the ways come by the length of the former row, then
         * by the way of the former row, then by the way of the latter one.
         */
        private static int sumOfWay(int[] row, Table table, int from, int length, int way) {
            if (length <= 1 || length > MOST_LENGTH) {
                return get(row, from);
            }
            int left = way;
            for (int former = 1; former < length; former++) {
                int latterWays = get(WAYS, length - former);
                int together = get(WAYS, former) * latterWays;
                if (latterWays > 0 && left < together) {
                    int formerSum = sumOfWay(row, table, from, former, left / latterWays);
                    int latterSum = sumOfWay(row, table, from + former, length - former, left % latterWays);
                    return table.at(formerSum, latterSum);
                }
                left -= together;
            }
            return NOT_FOUND;
        }

        int possibleSums(Table table) {
            sumParts(table);
            int set = 0;
            for (int token = 0; token < table.size(); token++) {
                if (partWays(0, length, token) > 0) {
                    set |= 1 << token;
                }
            }
            return set;
        }

        int sumFromLeft(Table table) {
            int total = get(row, 0);
            for (int i = 1; i < length; i++) {
                total = table.at(total, get(row, i));
            }
            return total;
        }

        int sumFromRight(Table table) {
            int total = get(row, length - 1);
            for (int i = length - 2; i >= 0; i--) {
                total = table.at(get(row, i), total);
            }
            return total;
        }

        int likeliestSum(Table table) {
            sumParts(table);
            int likeliest = 0;
            for (int token = 1; token < table.size(); token++) {
                if (partWays(0, length, token) > partWays(0, length, likeliest)) {
                    likeliest = token;
                }
            }
            return likeliest;
        }

        int firstCut(Table table, int token) {
            sumParts(table);
            for (int former = 1; former < length; former++) {
                if (cutComesTo(table, former, token)) {
                    return former;
                }
            }
            return NOT_FOUND;
        }

        private boolean cutComesTo(Table table, int former, int token) {
            for (int x = 0; x < table.size(); x++) {
                for (int y = 0; y < table.size(); y++) {
                    if (table.at(x, y) == token && partWays(0, former, x) > 0
                            && partWays(former, length - former, y) > 0) {
                        return true;
                    }
                }
            }
            return false;
        }

        private static int partPlace(int from, int partLength, int token) {
            return (from * (MOST_LENGTH + 1) + partLength) * MOST_TOKENS + token;
        }

        private int partWays(int from, int partLength, int token) {
            return get(parts, partPlace(from, partLength, token));
        }

        private void addWays(int from, int partLength, int token, int more) {
            put(parts, partPlace(from, partLength, token), partWays(from, partLength, token) + more);
        }

        /** The shorter parts first, because the longer ones are made of them. */
        private void sumParts(Table table) {
            for (int i = 0; i < parts.length; i++) {
                put(parts, i, 0);
            }
            for (int from = 0; from < length; from++) {
                addWays(from, 1, get(row, from), 1);
            }
            for (int partLength = 2; partLength <= length; partLength++) {
                for (int from = 0; from + partLength <= length; from++) {
                    for (int former = 1; former < partLength; former++) {
                        sumCut(table, from, former, partLength);
                    }
                }
            }
        }

        private void sumCut(Table table, int from, int former, int partLength) {
            for (int x = 0; x < table.size(); x++) {
                int formerWays = partWays(from, former, x);
                if (formerWays == 0) {
                    continue;
                }
                for (int y = 0; y < table.size(); y++) {
                    int latterWays = partWays(from + former, partLength - former, y);
                    addWays(from, partLength, table.at(x, y), formerWays * latterWays);
                }
            }
        }
    }
}
