/** Counts and prints the answers that are not as due; types texts into an object; tells its state. */
final class Checks {
    /** The most LINES that there can be are 0 .. 31, behind 8 GIVEN and 24 STEPS. */
    static final String EIGHT_GIVEN = "a;b;c;d;e;f;ab+c;0;";
    static final String MOST_STEPS = "add 0 1;by 8 c;times 0 9;".repeat(7) + "add 2 28;by 29 f;add 30 8;";

    private final String name;
    private long asked = 0;
    private int wrong = 0;

    Checks(String name) {
        this.name = name;
    }

    void due(String call, long got, long want) {
        asked++;
        if (got != want) {
            tell(call + " answered " + got + ", due is " + want);
        }
    }

    /** What an object tells ahead of a call that is refused, and behind it. */
    void same(String call, String ahead, String behind) {
        asked++;
        if (!ahead.equals(behind)) {
            tell(call + " changed " + ahead + " to " + behind);
        }
    }

    private void tell(String fault) {
        wrong++;
        if (wrong <= 40) {
            System.out.println(name + ": " + fault);
        }
    }

    int wrongs() {
        return wrong;
    }

    void finish() {
        System.out.println(name + ": " + asked + " answers, " + wrong + " not as due");
        if (wrong != 0 || asked == 0) {
            System.exit(1);
        }
    }

    // ---- objects

    static NoughtSums typed(NoughtSums x, String text) {
        for (int k = 0; k < text.length(); k += 8) {
            String part = text.substring(k, Math.min(text.length(), k + 8));
            long v = 0;
            for (char c : part.toCharArray()) {
                v = v << 8 | (c & 255);
            }
            x.type(v, part.length());
        }
        return x;
    }

    static int given(NoughtSums x, String text) {
        x.clear();
        return typed(x, text).given();
    }

    static int proof(NoughtSums x, String text) {
        x.clear();
        return typed(x, text).proof();
    }

    /** An object with these GIVEN; a text that is refused is a fault of the test, or of promise 4. */
    static NoughtSums made(String given) {
        NoughtSums x = new NoughtSums();
        int answer = given(x, given);
        if (answer < 0) {
            throw new IllegalStateException("given of '" + given + "' answered " + answer);
        }
        return x;
    }

    static NoughtSums made(String given, String proof) {
        NoughtSums x = made(given);
        int answer = proof(x, proof);
        if (answer < 0) {
            throw new IllegalStateException("proof of '" + proof + "' answered " + answer);
        }
        return x;
    }

    static NoughtSums full() {
        return made(EIGHT_GIVEN, MOST_STEPS);
    }

    /** What shows an object's state, by 81 calls that change nothing (it has but 512); THE TEXT by its length alone. */
    static String told(NoughtSums x) {
        StringBuilder out = new StringBuilder();
        for (int what = 0; what < 7; what++) {
            out.append(x.count(what)).append(' ');
        }
        out.append(x.wrong()).append(' ').append(x.end()).append(' ').append(x.common()).append(' ');
        out.append(x.standing()).append(' ').append(x.trace()).append(" lines");
        for (int i = 0; i < 32; i++) {
            out.append(' ').append(x.line(i));
        }
        out.append(" base");
        for (int k = 0; k < 21; k++) {
            out.append(' ').append(x.base(k));
        }
        out.append(" deep");
        for (int i = 0; i < 8; i++) {
            out.append(' ').append(x.deep(i, 1)).append(' ').append(x.needed(i, 1));
        }
        return out.toString();
    }

    // ---- numbers

    /**
     * Numbers that are not as told where first .. last are: the nearest, the farthest, and those that a shift or a
     * narrowing would wrap around to ones that are.
     */
    static int[] outside(int first, int last) {
        return new int[] {
            Integer.MIN_VALUE, Integer.MIN_VALUE + first, first - 256, first - 64, first - 32, first - 1,
            last + 1, last + 32, last + 64, last + 256, 65536 + first, Integer.MAX_VALUE
        };
    }

    /** The text of a product: its letters, or 1. */
    static String product(int product) {
        StringBuilder out = new StringBuilder();
        for (int letter = 0; letter < 6; letter++) {
            if ((product >> letter & 1) == 1) {
                out.append((char) ('a' + letter));
            }
        }
        return out.length() == 0 ? "1" : out.toString();
    }

    /** The text of a sum of products. */
    static String sum(long sum) {
        StringBuilder out = new StringBuilder();
        for (int product = 0; product < 64; product++) {
            if ((sum >>> product & 1) == 1) {
                out.append(out.length() == 0 ? "" : "+").append(product(product));
            }
        }
        return out.length() == 0 ? "0" : out.toString();
    }

    /** The sum that has value 1 in these worlds alone. */
    static long sumOfWorlds(long worlds) {
        long sum = 0;
        for (int product = 0; product < 64; product++) {
            for (int world = 0; world < 64; world++) {
                if ((worlds >>> world & 1) == 1 && (world & product) == world) {
                    sum ^= 1L << product;
                }
            }
        }
        return sum;
    }
}
