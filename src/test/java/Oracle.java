import java.util.ArrayDeque;
import java.util.ArrayList;
import java.util.Comparator;
import java.util.List;
import java.util.TreeSet;
import java.util.regex.Matcher;
import java.util.regex.Pattern;

/** The document's words, taken literally; slow. */
final class Oracle {
    private static final Pattern TOKEN = Pattern.compile("[a-z]+|[0-9]+|[+;]");
    static final List<Integer> ORDER = order();

    final List<Long> lines = new ArrayList<>();
    int givenCount = 0;
    int steps = 0;
    int wrongStep = -9;
    long trace = 0;

    private static List<Integer> order() {
        List<Integer> all = new ArrayList<>();
        for (int p = 0; p < 64; p++) {
            all.add(p);
        }
        all.sort(Comparator.<Integer>comparingInt(Integer::bitCount).thenComparingInt(p -> p));
        return all;
    }

    // ---- sums

    static List<Integer> products(long sum) {
        List<Integer> out = new ArrayList<>();
        for (int p : ORDER) {
            if ((sum >>> p & 1) == 1) {
                out.add(p);
            }
        }
        return out;
    }

    static long times(long one, long other) {
        long out = 0;
        for (int p : products(one)) {
            for (int q : products(other)) {
                out ^= 1L << (p | q);
            }
        }
        return out;
    }

    static int value(long sum, int world) {
        int n = 0;
        for (int p : products(sum)) {
            n += (p & world) == p ? 1 : 0;
        }
        return n % 2;
    }

    static int lead(long sum) {
        List<Integer> all = products(sum);
        return all.isEmpty() ? -9 : all.get(all.size() - 1);
    }

    static int degree(long sum) {
        return sum == 0 ? -9 : Integer.bitCount(lead(sum));
    }

    static long with(long sum, int letter, int v) {
        long out = 0;
        for (int p : products(sum)) {
            if ((p >> letter & 1) == 0) {
                out ^= 1L << p;
            } else if (v == 1) {
                out ^= 1L << (p - (1 << letter));
            }
        }
        return out;
    }

    static String tell(long sum) {
        StringBuilder out = new StringBuilder();
        for (int p : products(sum)) {
            out.append(out.length() == 0 ? "" : "+");
            for (int letter = 0; letter < 6; letter++) {
                out.append((p >> letter & 1) == 1 ? String.valueOf((char) ('a' + letter)) : "");
            }
            out.append(p == 0 ? "1" : "");
        }
        return out.length() == 0 ? "0" : out.toString();
    }

    // ---- texts: the forms are told by patterns over whole tokens

    private record Token(int at, String text) {
        boolean isNumber() {
            return text.matches("0|[1-9][0-9]?");
        }

        boolean isRun() {
            return text.matches("[a-f]+") && text.chars().distinct().count() == text.length();
        }

        boolean isTerm() {
            return isRun() || text.equals("0") || text.equals("1");
        }

        long term() {
            if (text.equals("0") || text.equals("1")) {
                return Long.parseLong(text);
            }
            int product = 0;
            for (char c : text.toCharArray()) {
                product |= 1 << (c - 'a');
            }
            return 1L << product;
        }
    }

    private static ArrayDeque<Token> tokens(String text) {
        ArrayDeque<Token> out = new ArrayDeque<>();
        Matcher m = TOKEN.matcher(text);
        int at = 0;
        while (at < text.length()) {
            if (text.charAt(at) == ' ') {
                at++;
            } else if (m.find(at) && m.start() == at) {
                out.add(new Token(at, m.group()));
                at = m.end();
            } else {
                out.add(new Token(at, "?"));
                at++;
            }
        }
        out.add(new Token(text.length(), "$"));
        return out;
    }

    private static final class Fault extends RuntimeException {
        private static final long serialVersionUID = 1L;
        final int at;

        Fault(Token token) {
            at = token.at();
        }
    }

    private static Token take(ArrayDeque<Token> in, boolean fits) {
        if (!fits) {
            throw new Fault(in.peek());
        }
        return in.poll();
    }

    private static long takeSum(ArrayDeque<Token> in) {
        long sum = take(in, in.peek().isTerm()).term();
        while (in.peek().text().equals("+")) {
            in.poll();
            sum ^= take(in, in.peek().isTerm()).term();
        }
        take(in, in.peek().text().equals(";"));
        return sum;
    }

    private static int takeLine(ArrayDeque<Token> in, int ahead) {
        return Integer.parseInt(take(in, in.peek().isNumber() && Integer.parseInt(in.peek().text()) < ahead).text());
    }

    int given(String text) {
        List<Long> sums = new ArrayList<>();
        try {
            ArrayDeque<Token> in = tokens(text);
            while (!in.peek().text().equals("$")) {
                take0(in, sums.size() < 8);
                sums.add(takeSum(in));
            }
        } catch (Fault f) {
            return -10 - f.at;
        }
        lines.clear();
        lines.addAll(sums);
        givenCount = sums.size();
        steps = 0;
        wrongStep = -9;
        return givenCount;
    }

    private static void take0(ArrayDeque<Token> in, boolean fits) {
        if (!fits) {
            throw new Fault(in.peek());
        }
    }

    private record Step(String op, int i, int j, long sum) { }

    int proof(String text) {
        List<Step> told = new ArrayList<>();
        try {
            ArrayDeque<Token> in = tokens(text);
            while (!in.peek().text().equals("$")) {
                take0(in, told.size() < 24);
                told.add(takeStep(in, givenCount + told.size()));
            }
        } catch (Fault f) {
            return -10 - f.at;
        }
        while (lines.size() > givenCount) {
            lines.remove(lines.size() - 1);
        }
        steps = told.size();
        wrongStep = -9;
        for (int k = 0; k < steps && wrongStep == -9; k++) {
            Step s = told.get(k);
            if (s.op().equals("add")) {
                lines.add(lines.get(s.i()) ^ lines.get(s.j()));
            } else if (s.op().equals("by")) {
                lines.add(times(lines.get(s.i()), s.sum()));
            } else if (s.op().equals("times")) {
                lines.add(times(lines.get(s.i()), lines.get(s.j())));
            } else if (followsFrom(s.sum(), (1 << givenCount) - 1)) {
                lines.add(s.sum());
            } else {
                wrongStep = k;
            }
        }
        return lines.size() - givenCount;
    }

    private static Step takeStep(ArrayDeque<Token> in, int ahead) {
        String op = take(in, in.peek().text().matches("add|by|times|claim")).text();
        if (op.equals("claim")) {
            return new Step(op, 0, 0, takeSum(in));
        }
        int i = takeLine(in, ahead);
        int j = 0;
        long sum = 0;
        if (op.equals("by")) {
            sum = take(in, in.peek().text().matches("[a-f]")).term();
        } else {
            j = takeLine(in, ahead);
        }
        take(in, in.peek().text().equals(";"));
        return new Step(op, i, j, sum);
    }

    // ---- what follows

    private boolean allNought(int world, int set) {
        for (int g = 0; g < givenCount; g++) {
            if ((set >> g & 1) == 1 && value(lines.get(g), world) != 0) {
                return false;
            }
        }
        return true;
    }

    boolean followsFrom(long sum, int set) {
        for (int w = 0; w < 64; w++) {
            if (value(sum, w) == 1 && allNought(w, set)) {
                return false;
            }
        }
        return true;
    }

    long common() {
        long out = 0;
        for (int w = 0; w < 64; w++) {
            out |= allNought(w, (1 << givenCount) - 1) ? 1L << w : 0;
        }
        return out;
    }

    private static long valuesIn(long sum, long worlds) {
        long out = 0;
        for (int w = 0; w < 64; w++) {
            if ((worlds >>> w & 1) == 1 && value(sum, w) == 1) {
                out |= 1L << w;
            }
        }
        return out;
    }

    /** Gauss over columns that are made independent one by one; finds which of them make a vector. */
    private static final class Columns {
        final List<Long> vectors = new ArrayList<>();
        final List<Long> ways = new ArrayList<>();

        /** {what remains of the vector, the way there}. */
        long[] reduce(long vector) {
            long v = vector;
            long way = 0;
            for (int k = 0; k < vectors.size(); k++) {
                if ((v & Long.lowestOneBit(vectors.get(k))) != 0) {
                    v ^= vectors.get(k);
                    way ^= ways.get(k);
                }
            }
            return new long[] {v, way};
        }

        boolean add(long vector, long name) {
            long[] r = reduce(vector);
            if (r[0] == 0) {
                return false;
            }
            long low = Long.lowestOneBit(r[0]);
            for (int k = 0; k < vectors.size(); k++) {
                if ((vectors.get(k) & low) != 0) {
                    vectors.set(k, vectors.get(k) ^ r[0]);
                    ways.set(k, ways.get(k) ^ r[1] ^ name);
                }
            }
            vectors.add(r[0]);
            ways.add(r[1] ^ name);
            return true;
        }
    }

    private Columns standingColumns() {
        Columns columns = new Columns();
        long worlds = common();
        for (int p : ORDER) {
            columns.add(valuesIn(1L << p, worlds), 1L << p);
        }
        return columns;
    }

    long standing() {
        Columns columns = new Columns();
        long worlds = common();
        long out = 0;
        for (int p : ORDER) {
            out |= columns.add(valuesIn(1L << p, worlds), 1L << p) ? 1L << p : 0;
        }
        return out;
    }

    long left(long sum) {
        return standingColumns().reduce(valuesIn(sum, common()))[1];
    }

    List<Long> base() {
        long stand = standing();
        List<Long> out = new ArrayList<>();
        for (int p : ORDER) {
            boolean in = (stand >>> p & 1) == 0;
            for (int letter = 0; letter < 6; letter++) {
                if ((p >> letter & 1) == 1 && (stand >>> (p - (1 << letter)) & 1) == 0) {
                    in = false;
                }
            }
            if (in) {
                out.add(1L << p ^ left(1L << p));
            }
        }
        return out;
    }

    // ---- how deep

    int atOnce(long sum) {
        for (int d = 0; d <= 12; d++) {
            Columns span = new Columns();
            for (int g = 0; g < givenCount; g++) {
                for (int p = 0; p < 64; p++) {
                    if (lines.get(g) != 0 && Integer.bitCount(p) + degree(lines.get(g)) <= d) {
                        span.add(times(lines.get(g), 1L << p), 0);
                    }
                }
            }
            if (span.reduce(sum)[0] == 0) {
                return d;
            }
        }
        return -9;
    }

    int grown(long sum) {
        for (int d = 0; d <= 6; d++) {
            if (grownSpan(d).reduce(sum)[0] == 0) {
                return d;
            }
        }
        return -9;
    }

    /** Sums below degree d: found anew each round as those whose part of degree d and above goes away. */
    private Columns grownSpan(int d) {
        Columns all = new Columns();
        for (int g = 0; g < givenCount; g++) {
            if (lines.get(g) != 0 && degree(lines.get(g)) <= d) {
                all.add(lines.get(g), 0);
            }
        }
        boolean grows = true;
        while (grows) {
            grows = false;
            for (long low : below(all.vectors, d)) {
                for (int letter = 0; letter < 6; letter++) {
                    grows |= all.add(times(low, 1L << (1 << letter)), 0);
                }
            }
        }
        return all;
    }

    private static List<Long> below(List<Long> vectors, int d) {
        long high = 0;
        for (int p = 0; p < 64; p++) {
            high |= Integer.bitCount(p) >= d ? 1L << p : 0;
        }
        List<Long> out = new ArrayList<>();
        Columns tops = new Columns();
        for (long v : vectors) {
            long[] r = tops.reduce(v & high);
            if (r[0] == 0) {
                out.add(v ^ r[1]);
            } else {
                tops.add(v & high, v);
            }
        }
        return out;
    }

    TreeSet<Long> literallyGrown(int d) {
        TreeSet<Long> came = new TreeSet<>();
        ArrayDeque<Long> fresh = new ArrayDeque<>();
        fresh.add(0L);
        for (int g = 0; g < givenCount; g++) {
            if (degree(lines.get(g)) <= d) {
                fresh.add(lines.get(g));
            }
        }
        while (!fresh.isEmpty()) {
            long sum = fresh.poll();
            if (!came.contains(sum)) {
                for (long other : came) {
                    fresh.add(sum ^ other);
                }
                came.add(sum);
                for (int letter = 0; letter < 3 && degree(sum) < d; letter++) {
                    fresh.add(times(sum, 1L << (1 << letter)));
                }
            }
        }
        return came;
    }

    int needed(long sum) {
        for (int n = 0; n <= givenCount; n++) {
            for (int set = 0; set < 1 << givenCount; set++) {
                if (Integer.bitCount(set) == n && followsFrom(sum, set)) {
                    return set;
                }
            }
        }
        return -9;
    }

    int weight(int kind, long sum) {
        int products = products(sum).size();
        int worlds = Long.bitCount(valuesIn(sum, -1L));
        trace += new int[] {1, 11, 101, 1011}[kind];
        switch (kind) {
            case 0:
                return products;
            case 1:
                return products + worlds;
            case 2:
                return products + (sum == 0 ? 0 : 2 * degree(sum));
            default:
                return 2 * (products + worlds) - products(left(sum)).size();
        }
    }
}
