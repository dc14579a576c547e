/**
 * Sums of products of six letters modulo two: told by a text, proved by a text, with what follows from them and how
 * deep a proof of it must go.
 *
 * <p>A product is a set of letters (6 bits), a sum is a set of products (64 bits of a long), and a set of worlds is
 * held in 64 bits too. All rows are made by the constructors; no call makes an object.
 */
public final class NoughtSums {
    public static final int BAD = -1, FULL = -3, NONE = -9;

    private static final int LETTERS = 6;
    private static final int PRODUCTS = 64;
    private static final int WORLDS = 64;
    private static final int MOST_GIVEN = 8;
    private static final int MOST_STEPS = 24;
    private static final int MOST_LINES = MOST_GIVEN + MOST_STEPS;
    private static final int MOST_BYTES = 400;
    private static final int MOST_NUMBER = 99;

    private static final int DEEPEST_AT_ONCE = 12;
    private static final int DEEPEST_GROWN = 6;

    private static final int NO_FAULT = -1;
    private static final int FAULT_BASE = -10;
    private static final int BAD_WEIGHT = -100;

    private static final int KIND_SUM = 0;
    private static final int KIND_ADDED = 1;
    private static final int KIND_RAISED = 2;
    private static final int KIND_PROVED = 3;

    /** The products by how many letters they have, then as numbers. */
    private static final int[] ORDER = {
        0,
        1, 2, 4, 8, 16, 32,
        3, 5, 6, 9, 10, 12, 17, 18, 20, 24, 33, 34, 36, 40, 48,
        7, 11, 13, 14, 19, 21, 22, 25, 26, 28, 35, 37, 38, 41, 42, 44, 49, 50, 52, 56,
        15, 23, 27, 29, 30, 39, 43, 45, 46, 51, 53, 54, 57, 58, 60,
        31, 47, 55, 59, 61, 62,
        63
    };

    /** For each letter the products that have it, which are also the worlds in which it is 1. */
    private static final long[] HAS_LETTER = {
        0xAAAAAAAAAAAAAAAAL, 0xCCCCCCCCCCCCCCCCL, 0xF0F0F0F0F0F0F0F0L,
        0xFF00FF00FF00FF00L, 0xFFFF0000FFFF0000L, 0xFFFFFFFF00000000L
    };

    private final Text text = new Text();
    private final long[] lineSums = new long[MOST_LINES];
    private final long[] lineValues = new long[MOST_LINES];
    private int lines = 0;
    private int givenLines = 0;
    private int steps = 0;
    private int wrongStep = NONE;
    private long commonWorlds = -1L;
    private long traced = 0L;

    /** All sums that follow, each row with the AT ONCE depth at which it came. */
    private final Span following = new Span();
    private boolean followingStands = false;
    private final Span grown = new Span();
    private boolean grownStands = false;

    public NoughtSums() {
    }

    // ---- texts

    public int type(long v, int n) {
        if (n < 1 || n > 8) {
            return BAD;
        }
        if (text.length + n > MOST_BYTES) {
            return FULL;
        }
        for (int place = n - 1; place >= 0; place--) {
            text.append((int) (v >>> (8 * place)) & 255);
        }
        return text.length;
    }

    public int clear() {
        int had = text.length;
        text.length = 0;
        return had;
    }

    public int given() {
        int fault = text.readGiven();
        if (fault != NO_FAULT) {
            return FAULT_BASE - fault;
        }
        text.length = 0;
        lines = 0;
        dropProof();
        commonWorlds = -1L;
        for (int k = 0; k < text.told && k < MOST_GIVEN; k++) {
            appendLine(text.sums[k]);
            commonWorlds &= ~valuesOf(text.sums[k]);
        }
        givenLines = lines;
        followingStands = false;
        grownStands = false;
        return givenLines;
    }

    public int proof() {
        int fault = text.readProof(givenLines);
        if (fault != NO_FAULT) {
            return FAULT_BASE - fault;
        }
        text.length = 0;
        lines = givenLines;
        dropProof();
        steps = text.told;
        carryOutSteps();
        return lines - givenLines;
    }

    public int wrong() {
        return wrongStep;
    }

    public int end() {
        for (int i = 0; i < lines && i < MOST_LINES; i++) {
            if (lineSums[i] == 1L) {
                return i;
            }
        }
        return NONE;
    }

    // ---- lines

    public long line(int i) {
        return sumOf(i);
    }

    public int value(int i, int world) {
        if (!isLine(i) || world < 0 || world >= WORLDS) {
            return BAD;
        }
        return hasBit(lineValues[i], world) ? 1 : 0;
    }

    public int lead(int i, int what) {
        if (!isLine(i) || what < 0 || what > 1) {
            return BAD;
        }
        return what == 0 ? degreeOf(lineSums[i]) : leadOf(lineSums[i]);
    }

    public long both(int i, int j, int what) {
        if (!isLine(i) || !isLine(j) || what < 0 || what > 1) {
            return 0L;
        }
        return what == 0 ? multiplied(lineSums[i], lineSums[j]) : lineSums[i] ^ lineSums[j];
    }

    public long with(int i, int letter, int v) {
        if (!isLine(i) || letter < 0 || letter >= LETTERS || v < 0 || v > 1) {
            return 0L;
        }
        long having = lineSums[i] & HAS_LETTER[letter];
        long without = lineSums[i] & ~HAS_LETTER[letter];
        return v == 0 ? without : without ^ (having >>> (1 << letter));
    }

    // ---- what follows

    public long common() {
        return commonWorlds;
    }

    public int follows(int i) {
        if (!isLine(i)) {
            return BAD;
        }
        return (lineValues[i] & commonWorlds) == 0L ? 1 : 0;
    }

    public long standing() {
        return standingProducts();
    }

    public long left(int i) {
        return leftOf(sumOf(i));
    }

    public long rest(long sum) {
        return leftOf(sum);
    }

    public long base(int k) {
        if (k < 0) {
            return 0L;
        }
        long stand = standingProducts();
        int ahead = 0;
        for (int place = 0; place < PRODUCTS; place++) {
            int product = ORDER[place];
            if (beginsBase(product, stand)) {
                if (ahead == k) {
                    return (1L << product) ^ leftOf(1L << product);
                }
                ahead++;
            }
        }
        return 0L;
    }

    // ---- how deep

    public int deep(int i, int what) {
        if (!isLine(i) || what < 0 || what > 1) {
            return BAD;
        }
        if (what == 0) {
            makeFollowing();
            return following.levelOf(lineSums[i]);
        }
        makeGrown();
        return grown.levelOf(lineSums[i]);
    }

    public int needed(int i, int what) {
        if (!isLine(i) || what < 0 || what > 1) {
            return BAD;
        }
        int set = fewestGiven(lineValues[i]);
        if (set == NONE) {
            return NONE;
        }
        return what == 0 ? Integer.bitCount(set) : set;
    }

    public int weight(int kind, int i) {
        if (!isLine(i)) {
            return BAD_WEIGHT;
        }
        switch (kind) {
            case KIND_SUM:
                return sumWeight(i);
            case KIND_ADDED:
                return addedWeight(i);
            case KIND_RAISED:
                return raisedWeight(i);
            case KIND_PROVED:
                return provedWeight(i);
            default:
                return BAD_WEIGHT;
        }
    }

    public int count(int what) {
        switch (what) {
            case 0:
                return givenLines;
            case 1:
                return lines - givenLines;
            case 2:
                return steps;
            case 3:
                return baseSize();
            case 4:
                return PRODUCTS - Long.bitCount(standingProducts());
            case 5:
                return Long.bitCount(commonWorlds);
            case 6:
                return text.length;
            default:
                return BAD;
        }
    }

    public long trace() {
        return traced;
    }

    // ---- lines and steps

    private boolean isLine(int i) {
        return i >= 0 && i < lines && i < MOST_LINES;
    }

    private long sumOf(int i) {
        return isLine(i) ? lineSums[i] : 0L;
    }

    private void appendLine(long sum) {
        if (lines >= 0 && lines < MOST_LINES) {
            lineSums[lines] = sum;
            lineValues[lines] = valuesOf(sum);
            lines++;
        }
    }

    private void dropProof() {
        steps = 0;
        wrongStep = NONE;
    }

    private void carryOutSteps() {
        for (int step = 0; step < steps && step < MOST_STEPS; step++) {
            long sum = sumOfStep(step);
            boolean claimed = text.ops[step] == Text.CLAIM;
            if (claimed && (valuesOf(sum) & commonWorlds) != 0L) {
                wrongStep = step;
                return;
            }
            appendLine(sum);
        }
    }

    private long sumOfStep(int step) {
        switch (text.ops[step]) {
            case Text.ADD:
                return sumOf(text.firsts[step]) ^ sumOf(text.seconds[step]);
            case Text.BY:
                return multiplied(sumOf(text.firsts[step]), 1L << text.seconds[step]);
            case Text.TIMES:
                return multiplied(sumOf(text.firsts[step]), sumOf(text.seconds[step]));
            default:
                return text.sums[step];
        }
    }

    // ---- what follows

    /**
     * All multiples of the given sums, taken by their depth: together they are all sums that follow, since a sum that
     * is nought in the common worlds is one of multiples of the given ones.
     */
    private void makeFollowing() {
        if (followingStands) {
            return;
        }
        following.empty();
        // There are as many rows in the end as worlds that are not common: behind the last nothing new comes.
        int rowsInAll = WORLDS - Long.bitCount(commonWorlds);
        for (int depth = 0; depth <= DEEPEST_AT_ONCE && following.size < rowsInAll; depth++) {
            for (int g = 0; g < givenLines && g < MOST_GIVEN; g++) {
                if (lineSums[g] != 0L) {
                    addMultiples(lineSums[g], depth - degreeOf(lineSums[g]), depth);
                }
            }
        }
        followingStands = true;
    }

    private void addMultiples(long sum, int letters, int depth) {
        for (int product = 0; product < PRODUCTS; product++) {
            if (Integer.bitCount(product) == letters) {
                following.add(multiplied(sum, 1L << product), depth);
            }
        }
    }

    /**
     * A product has the values of products ahead of it just if it leads a sum that follows: so those that stand are
     * those that lead none.
     */
    private long standingProducts() {
        makeFollowing();
        return ~following.leads;
    }

    private long leftOf(long sum) {
        makeFollowing();
        return following.reduced(sum);
    }

    private static boolean beginsBase(int product, long stand) {
        if (hasBit(stand, product)) {
            return false;
        }
        for (int letter = 0; letter < LETTERS; letter++) {
            int less = product & ~(1 << letter);
            if (less != product && !hasBit(stand, less)) {
                return false;
            }
        }
        return true;
    }

    private int baseSize() {
        long stand = standingProducts();
        int size = 0;
        for (int product = 0; product < PRODUCTS; product++) {
            if (beginsBase(product, stand)) {
                size++;
            }
        }
        return size;
    }

    // ---- how deep

    /**
     * What comes at one depth comes at the next, too, so the rows are kept and only marked with their depth. It is
     * enough to multiply rows: each sum below a degree is a sum of rows below it, for their leads differ.
     */
    private void makeGrown() {
        if (grownStands) {
            return;
        }
        grown.empty();
        for (int depth = 0; depth <= DEEPEST_GROWN; depth++) {
            for (int g = 0; g < givenLines && g < MOST_GIVEN; g++) {
                if (degreeOf(lineSums[g]) == depth) {
                    grown.add(lineSums[g], depth);
                }
            }
            multiplyRows(depth);
        }
        grownStands = true;
    }

    private void multiplyRows(int depth) {
        for (int k = 0; k < PRODUCTS && k < grown.size; k++) {
            // A row is multiplied once, at the first depth that is above its degree and has it.
            int first = Math.max(grown.levelOfRow(k), degreeOf(grown.sumOfRow(k)) + 1);
            if (first == depth) {
                for (int letter = 0; letter < LETTERS; letter++) {
                    grown.add(multiplied(grown.sumOfRow(k), 1L << (1 << letter)), depth);
                }
            }
        }
    }

    /** Of the sets with the fewest given sums the least, as they are gone through upwards; NONE. */
    private int fewestGiven(long values) {
        int best = NONE;
        for (int set = 0; set < (1 << givenLines); set++) {
            boolean fewer = best == NONE || Integer.bitCount(set) < Integer.bitCount(best);
            if (fewer && (values & worldsOf(set)) == 0L) {
                best = set;
            }
        }
        return best;
    }

    private long worldsOf(int set) {
        long worlds = -1L;
        for (int g = 0; g < givenLines && g < MOST_GIVEN; g++) {
            if ((set >>> g & 1) != 0) {
                worlds &= ~lineValues[g];
            }
        }
        return worlds;
    }

    private int sumWeight(int i) {
        traced += 1;
        return Long.bitCount(sumOf(i));
    }

    private int addedWeight(int i) {
        traced += 10;
        return sumWeight(i) + Long.bitCount(valuesOf(sumOf(i)));
    }

    private int raisedWeight(int i) {
        traced += 100;
        return sumWeight(i) + 2 * Math.max(0, degreeOf(sumOf(i)));
    }

    private int provedWeight(int i) {
        traced += 1000;
        return 2 * addedWeight(i) - Long.bitCount(leftOf(sumOf(i)));
    }

    // ---- sums

    private static boolean hasBit(long set, int bit) {
        return (set >>> bit & 1L) != 0L;
    }

    /**
     * The worlds in which a sum is 1: of each world the products within it, added. Done twice it gives back what it
     * was given, so it also makes the sum of given values.
     */
    private static long valuesOf(long sum) {
        long values = sum;
        for (int letter = 0; letter < LETTERS; letter++) {
            values ^= (values & ~HAS_LETTER[letter]) << (1 << letter);
        }
        return values;
    }

    private static long multiplied(long one, long other) {
        return valuesOf(valuesOf(one) & valuesOf(other));
    }

    private static int leadOf(long sum) {
        for (int place = PRODUCTS - 1; place >= 0; place--) {
            if (hasBit(sum, ORDER[place])) {
                return ORDER[place];
            }
        }
        return NONE;
    }

    private static int degreeOf(long sum) {
        int product = leadOf(sum);
        return product == NONE ? NONE : Integer.bitCount(product);
    }

    /** All sums of some rows; each row has a lead of its own, and a level that tells when it came. */
    private static final class Span {
        private final long[] rows = new long[PRODUCTS];
        private final int[] levels = new int[PRODUCTS];
        private final int[] came = new int[PRODUCTS];
        long leads = 0L;
        int size = 0;

        void empty() {
            leads = 0L;
            size = 0;
        }

        /** Levels must not fall from one call to the next: levelOf rests on that. */
        void add(long sum, int level) {
            long remains = sum;
            for (int place = PRODUCTS - 1; place >= 0 && remains != 0L; place--) {
                int product = ORDER[place];
                if (hasBit(remains, product)) {
                    if (!hasBit(leads, product)) {
                        keep(product, remains, level);
                        return;
                    }
                    remains ^= rows[product];
                }
            }
        }

        private void keep(int product, long sum, int level) {
            if (size < PRODUCTS) {
                rows[product] = sum;
                levels[product] = level;
                came[size] = product;
                leads |= 1L << product;
                size++;
            }
        }

        /** The k-th row that came; k is below size. */
        long sumOfRow(int k) {
            return k >= 0 && k < size ? rows[came[k]] : 0L;
        }

        int levelOfRow(int k) {
            return k >= 0 && k < size ? levels[came[k]] : NONE;
        }

        /** The sum that is left when each lead has been replaced by what its row makes of it. */
        long reduced(long sum) {
            long remains = sum;
            for (int place = PRODUCTS - 1; place >= 0; place--) {
                int product = ORDER[place];
                if (hasBit(remains, product) && hasBit(leads, product)) {
                    remains ^= rows[product];
                }
            }
            return remains;
        }

        /** The level at which a sum has come: as it is a sum of rows in one way only, the last of theirs; NONE. */
        int levelOf(long sum) {
            long remains = sum;
            int level = 0;
            for (int place = PRODUCTS - 1; place >= 0 && remains != 0L; place--) {
                int product = ORDER[place];
                if (hasBit(remains, product)) {
                    if (!hasBit(leads, product)) {
                        return NONE;
                    }
                    level = Math.max(level, levels[product]);
                    remains ^= rows[product];
                }
            }
            return level;
        }
    }

    /**
     * The text's bytes, and what was last read from them. The token at hand is always the first one that is not yet
     * known to be right, so a fault is the place where it starts.
     */
    private static final class Text {
        static final int ADD = 1;
        static final int BY = 2;
        static final int TIMES = 3;
        static final int CLAIM = 4;
        private static final int RUN = 5;
        private static final int NUMBER = 6;
        private static final int PLUS = 7;
        private static final int SEMICOLON = 8;
        private static final int OVER = 9;
        private static final int NO_TOKEN = 10;

        private final int[] bytes = new int[MOST_BYTES];
        int length = 0;

        private int place = 0;
        private int start = 0;
        private int token = OVER;
        /** The product of a run, or a number. */
        private int meaning = 0;

        /** How many sums or steps were told. */
        int told = 0;
        final long[] sums = new long[MOST_STEPS];
        final int[] ops = new int[MOST_STEPS];
        final int[] firsts = new int[MOST_STEPS];
        /** A line, or the product of the one letter of a step with BY. */
        final int[] seconds = new int[MOST_STEPS];

        void append(int octet) {
            if (length >= 0 && length < MOST_BYTES) {
                bytes[length] = octet;
                length++;
            }
        }

        /** Reads the text as given sums; the fault, or NO_FAULT. */
        int readGiven() {
            begin();
            while (told < MOST_GIVEN && token != OVER) {
                if (!readSum()) {
                    return start;
                }
                told++;
                next();
            }
            return token == OVER ? NO_FAULT : start;
        }

        /** Reads the text as steps behind some lines; the fault, or NO_FAULT. */
        int readProof(int linesAhead) {
            begin();
            while (told < MOST_STEPS && token != OVER) {
                if (!readStep(linesAhead + told)) {
                    return start;
                }
                told++;
                next();
            }
            return token == OVER ? NO_FAULT : start;
        }

        private void begin() {
            place = 0;
            told = 0;
            next();
        }

        private boolean readStep(int linesAhead) {
            if (told < 0 || told >= MOST_STEPS) {
                return false;
            }
            ops[told] = token;
            switch (token) {
                case ADD:
                case TIMES:
                    return readLine(firsts, linesAhead) && readLine(seconds, linesAhead) && readSemicolon();
                case BY:
                    return readLine(firsts, linesAhead) && readLetter() && readSemicolon();
                case CLAIM:
                    next();
                    return readSum();
                default:
                    return false;
            }
        }

        private boolean readLine(int[] operands, int linesAhead) {
            next();
            if (token != NUMBER || meaning >= linesAhead || told < 0 || told >= operands.length) {
                return false;
            }
            operands[told] = meaning;
            return true;
        }

        private boolean readLetter() {
            next();
            if (token != RUN || Integer.bitCount(meaning) != 1 || told < 0 || told >= MOST_STEPS) {
                return false;
            }
            seconds[told] = meaning;
            return true;
        }

        private boolean readSemicolon() {
            next();
            return token == SEMICOLON;
        }

        /** Reads terms from the token at hand up to the semicolon behind them. */
        private boolean readSum() {
            long sum = 0L;
            for (int terms = 0; terms < MOST_BYTES; terms++) {
                if (!isTerm()) {
                    return false;
                }
                sum ^= termAtHand();
                next();
                if (token != PLUS) {
                    break;
                }
                next();
            }
            if (token != SEMICOLON || told < 0 || told >= MOST_STEPS) {
                return false;
            }
            sums[told] = sum;
            return true;
        }

        private boolean isTerm() {
            return token == RUN || (token == NUMBER && meaning <= 1);
        }

        private long termAtHand() {
            if (token == RUN) {
                return 1L << meaning;
            }
            return meaning == 1 ? 1L : 0L;
        }

        private void next() {
            while (place < length && byteAt(place) == ' ') {
                place++;
            }
            start = place;
            meaning = 0;
            int first = byteAt(start);
            if (start >= length) {
                token = OVER;
            } else if (isSmallLetter(first)) {
                readWord();
            } else if (isDigit(first)) {
                readNumber();
            } else {
                place++;
                token = first == '+' ? PLUS : first == ';' ? SEMICOLON : NO_TOKEN;
            }
        }

        private void readWord() {
            while (place < length && isSmallLetter(byteAt(place))) {
                place++;
            }
            if (isWord("add")) {
                token = ADD;
            } else if (isWord("by")) {
                token = BY;
            } else if (isWord("times")) {
                token = TIMES;
            } else if (isWord("claim")) {
                token = CLAIM;
            } else {
                token = takeRun() ? RUN : NO_TOKEN;
            }
        }

        private boolean isWord(String word) {
            if (start < 0 || place > MOST_BYTES || place - start != word.length()) {
                return false;
            }
            for (int k = 0; k < word.length(); k++) {
                if (bytes[start + k] != word.charAt(k)) {
                    return false;
                }
            }
            return true;
        }

        /** Whether the word at hand has letters each once only; meaning is then their product. */
        private boolean takeRun() {
            for (int k = start; k < place; k++) {
                int letter = byteAt(k) - 'a';
                if (letter < 0 || letter >= LETTERS || (meaning >>> letter & 1) != 0) {
                    return false;
                }
                meaning |= 1 << letter;
            }
            return true;
        }

        private void readNumber() {
            while (place < length && isDigit(byteAt(place))) {
                // Held just above the most, so that a long run of digits does not wrap around.
                meaning = Math.min(10 * meaning + byteAt(place) - '0', MOST_NUMBER + 1);
                place++;
            }
            boolean noughtAhead = byteAt(start) == '0' && place - start > 1;
            token = noughtAhead || meaning > MOST_NUMBER ? NO_TOKEN : NUMBER;
        }

        private int byteAt(int k) {
            return k >= 0 && k < length && k < MOST_BYTES ? bytes[k] : 0;
        }

        private static boolean isSmallLetter(int octet) {
            return octet >= 'a' && octet <= 'z';
        }

        private static boolean isDigit(int octet) {
            return octet >= '0' && octet <= '9';
        }
    }
}
