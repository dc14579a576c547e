/** Counts and prints the answers that are not as due; types texts into an object. */
final class Checks {
    private final String name;
    private long asked = 0;
    private int wrong = 0;

    Checks(String name) {
        this.name = name;
    }

    void due(String call, long got, long want) {
        asked++;
        if (got != want) {
            wrong++;
            if (wrong <= 40) {
                System.out.println(name + ": " + call + " answered " + got + ", due is " + want);
            }
        }
    }

    int wrongs() {
        return wrong;
    }

    void finish() {
        System.out.println(name + ": " + asked + " answers, " + wrong + " not as due");
        if (wrong != 0 || asked == 0) {
            System.exit(1);
        }
    }

    static NoughtSums typed(NoughtSums x, String text) {
        for (int k = 0; k < text.length(); k += 8) {
            String part = text.substring(k, Math.min(text.length(), k + 8));
            long v = 0;
            for (char c : part.toCharArray()) {
                v = v << 8 | (c & 255);
            }
            x.type(v, part.length());
        }
        return x;
    }

    static int given(NoughtSums x, String text) {
        x.clear();
        return typed(x, text).given();
    }

    static int proof(NoughtSums x, String text) {
        x.clear();
        return typed(x, text).proof();
    }
}
