import java.util.ArrayList;
import java.util.List;
import java.util.Random;
import java.util.TreeSet;

/** Random runs against the document's words taken literally and slowly, by other means than the class uses. */
public final class OracleTest {
    private static final Checks C = new Checks("OracleTest");
    /** Two rounds of two texts (104 calls), 38 calls and 17 for each of these lines stay within an object's 512. */
    private static final int LINES_A_ROUND = 6;
    private static final String[] BITS = {
        "a", "b", "f", "ab", "abc", "aa", "1", "0", "2", "9", "10", "99", "100", "01", "+", ";", " ", "add", "by",
        "times", "claim", "g", "?", "add 0 1;", "claim 0;", "by 0 c;", "\u0000", "\u00ff"
    };

    public static void main(String[] args) {
        Random random = new Random(20261116L);
        for (int k = 0; k < 2000 && C.wrongs() < 20; k++) {
            oneRun(random, 2 + random.nextInt(5));
        }
        for (int k = 0; k < 400 && C.wrongs() < 20; k++) {
            literalGrown(random);
        }
        for (int k = 0; k < 20000 && C.wrongs() < 20; k++) {
            anyText(random);
        }
        C.finish();
    }

    // ---- texts

    private static String term(Random random, int letters) {
        int kind = random.nextInt(12);
        if (kind == 0) {
            return "0";
        }
        if (kind <= 2) {
            return "1";
        }
        StringBuilder run = new StringBuilder();
        int most = random.nextInt(6) == 0 ? letters : 1 + random.nextInt(3);
        for (int k = 0; k < most; k++) {
            char c = (char) ('a' + random.nextInt(letters));
            if (run.indexOf(String.valueOf(c)) < 0) {
                run.append(c);
            }
        }
        return run.toString();
    }

    private static String sum(Random random, int letters) {
        StringBuilder text = new StringBuilder(term(random, letters));
        int more = random.nextInt(4);
        for (int k = 0; k < more; k++) {
            text.append(random.nextBoolean() ? " + " : "+").append(term(random, letters));
        }
        return text.toString();
    }

    private static String givenText(Random random, int letters) {
        StringBuilder text = new StringBuilder();
        int sums = random.nextInt(random.nextInt(5) == 0 ? 9 : 4);
        for (int k = 0; k < sums; k++) {
            text.append(sum(random, letters)).append(random.nextBoolean() ? ";" : " ; ");
        }
        return text.toString();
    }

    /** Claims are mostly multiples of given sums with something added, so that some follow and some do not. */
    private static String proofText(Random random, int letters, List<Long> given) {
        StringBuilder text = new StringBuilder();
        int steps = random.nextInt(random.nextInt(5) == 0 ? 25 : 12);
        for (int k = 0; k < steps && given.size() + k > 0 && text.length() < 320; k++) {
            int i = random.nextInt(given.size() + k);
            int j = random.nextInt(given.size() + k);
            int kind = random.nextInt(4);
            if (kind == 0) {
                text.append("add ").append(i).append(' ').append(j);
            } else if (kind == 1) {
                text.append("by ").append(i).append(' ').append((char) ('a' + random.nextInt(letters)));
            } else if (kind == 2) {
                text.append("times ").append(i).append(' ').append(j);
            } else {
                text.append("claim ").append(claim(random, letters, given));
            }
            text.append(';');
        }
        return text.toString();
    }

    private static String claim(Random random, int letters, List<Long> given) {
        long claimed = 0;
        for (long g : given) {
            if (random.nextBoolean()) {
                claimed ^= Oracle.times(g, 1L << random.nextInt(1 << letters));
            }
        }
        if (random.nextInt(8) == 0) {
            claimed ^= 1L << random.nextInt(1 << letters);
        }
        String text = Oracle.tell(claimed);
        return text.length() > 60 ? "0" : text;
    }

    private static void anyText(Random random) {
        StringBuilder text = new StringBuilder();
        String head = random.nextBoolean() ? "a;b+1;c;" : "";
        int bits = random.nextInt(24);
        for (int k = 0; k < bits; k++) {
            text.append(BITS[random.nextInt(BITS.length)]);
            if (random.nextInt(3) == 0) {
                text.append(random.nextBoolean() ? " " : ";");
            }
        }
        if (random.nextInt(3) == 0) {
            text = mutated(random, random.nextBoolean() ? givenText(random, 6) : "claim a+1;by 0 c;times 0 1;add 1 0;");
        }
        if (text.length() > 400) {
            text.setLength(400);
        }
        NoughtSums x = new NoughtSums();
        Oracle o = new Oracle();
        C.due("head", Checks.given(x, head), o.given(head));
        String t = text.toString();
        C.due("given of '" + t + "'", Checks.given(x, t), o.given(t));
        C.due("proof of '" + t + "'", Checks.proof(x, t), o.proof(t));
        C.due("steps of '" + t + "'", x.count(2), o.steps);
        C.due("wrong of '" + t + "'", x.wrong(), o.wrongStep);
        for (int i = 0; i < 33; i++) {
            C.due("line " + i + " of '" + t + "'", x.line(i), i < o.lines.size() ? o.lines.get(i) : 0);
        }
    }

    private static StringBuilder mutated(Random random, String text) {
        StringBuilder out = new StringBuilder(text);
        int changes = random.nextInt(3);
        for (int k = 0; k < changes && out.length() > 0; k++) {
            int at = random.nextInt(out.length());
            if (random.nextBoolean()) {
                out.deleteCharAt(at);
            } else {
                out.insert(at, BITS[random.nextInt(BITS.length)]);
            }
        }
        return out;
    }

    // ---- runs

    private static void oneRun(Random random, int letters) {
        NoughtSums x = new NoughtSums();
        Oracle o = new Oracle();
        for (int round = 0; round < 2; round++) {
            String given = givenText(random, letters);
            C.due("given of '" + given + "'", Checks.given(x, given), o.given(given));
            String proof = proofText(random, letters, o.lines);
            C.due("proof of '" + proof + "' behind '" + given + "'", Checks.proof(x, proof), o.proof(proof));
            compare(random, x, o, "'" + given + "' '" + proof + "' ");
        }
    }

    private static void compare(Random random, NoughtSums x, Oracle o, String at) {
        C.due(at + "wrong", x.wrong(), o.wrongStep);
        C.due(at + "end", x.end(), o.lines.indexOf(1L) < 0 ? -9 : o.lines.indexOf(1L));
        long common = o.common();
        C.due(at + "common", x.common(), common);
        C.due(at + "standing", x.standing(), o.standing());
        List<Long> base = o.base();
        for (int k = 0; k <= base.size(); k++) {
            C.due(at + "base " + k, x.base(k), k < base.size() ? base.get(k) : 0);
        }
        int[] counts = {o.givenCount, o.lines.size() - o.givenCount, o.steps, base.size(),
            64 - Long.bitCount(o.standing()), Long.bitCount(common), 0};
        for (int what = 0; what < 7; what++) {
            C.due(at + "count " + what, x.count(what), counts[what]);
        }
        for (int k = 0; k < 4; k++) {
            long sum = k == 0 ? random.nextLong() : 1L << random.nextInt(64);
            C.due(at + "rest " + sum, x.rest(sum), o.left(sum));
        }
        int n = o.lines.size();
        int first = random.nextInt(n + 1);
        for (int k = 0; k < n && k < LINES_A_ROUND; k++) {
            int i = (first + k) % n;
            compareLine(random, x, o, at + "line " + i + " ", i, n);
        }
        C.due(at + "behind the last", x.line(n), 0);
        C.due(at + "trace", x.trace(), o.trace);
    }

    private static void compareLine(Random random, NoughtSums x, Oracle o, String at, int i, int n) {
        long sum = o.lines.get(i);
        C.due(at, x.line(i), sum);
        int world = random.nextInt(64);
        C.due(at + "value " + world, x.value(i, world), Oracle.value(sum, world));
        C.due(at + "degree", x.lead(i, 0), Oracle.degree(sum));
        C.due(at + "lead", x.lead(i, 1), Oracle.lead(sum));
        int j = random.nextInt(n);
        C.due(at + "times " + j, x.both(i, j, 0), Oracle.times(sum, o.lines.get(j)));
        C.due(at + "plus " + j, x.both(i, j, 1), sum ^ o.lines.get(j));
        int letter = random.nextInt(6);
        int v = random.nextInt(2);
        C.due(at + "with " + letter + " " + v, x.with(i, letter, v), Oracle.with(sum, letter, v));
        C.due(at + "follows", x.follows(i), o.followsFrom(sum, (1 << o.givenCount) - 1) ? 1 : 0);
        C.due(at + "left", x.left(i), o.left(sum));
        C.due(at + "at once", x.deep(i, 0), o.atOnce(sum));
        C.due(at + "grown", x.deep(i, 1), o.grown(sum));
        int set = o.needed(sum);
        C.due(at + "needed", x.needed(i, 0), Integer.bitCount(set));
        C.due(at + "the set", x.needed(i, 1), set);
        int kind = random.nextInt(4);
        C.due(at + "weight " + kind, x.weight(kind, i), o.weight(kind, sum));
    }

    /** Three letters have 256 sums: there all that grows can be held as a set, sum by sum. */
    private static void literalGrown(Random random) {
        NoughtSums x = new NoughtSums();
        Oracle o = new Oracle();
        String given = givenText(random, 3);
        C.due("given of '" + given + "'", Checks.given(x, given), o.given(given));
        String proof = proofText(random, 3, o.lines);
        C.due("proof of '" + proof + "'", Checks.proof(x, proof), o.proof(proof));
        List<TreeSet<Long>> came = new ArrayList<>();
        for (int d = 0; d <= 6; d++) {
            came.add(o.literallyGrown(d));
        }
        for (int i = 0; i < o.lines.size(); i++) {
            int want = -9;
            for (int d = 6; d >= 0; d--) {
                if (came.get(d).contains(o.lines.get(i))) {
                    want = d;
                }
            }
            C.due("'" + given + "' '" + proof + "' literally grown " + i, x.deep(i, 1), want);
        }
    }
}
