/** Promise 2, type: the lowest n (1 .. 8) bytes of v, the highest of them first, come to THE TEXT; BAD; FULL. */
public final class Promise02TypeTest {
    private static final Checks C = new Checks("Promise02TypeTest");

    public static void main(String[] args) {
        answersHowManyBytesTheTextHas();
        takesTheLowestBytesAlone();
        takesTheHighestOfThemFirst();
        refusesOtherNumbersOfBytes();
        takesFourHundredBytes();
        refusesWhatDoesNotFitWhole();
        saysBadAheadOfFull();
        keepsTheTextAcrossRefusedCalls();
        goesOnBehindGivenAndProof();
        C.finish();
    }

    private static long packed(String text) {
        long v = 0;
        for (char c : text.toCharArray()) {
            v = v << 8 | c;
        }
        return v;
    }

    private static NoughtSums withBytes(int bytes) {
        return Checks.typed(new NoughtSums(), " ".repeat(bytes));
    }

    private static void answersHowManyBytesTheTextHas() {
        NoughtSums x = new NoughtSums();
        int have = 0;
        for (int n = 1; n <= 8; n++) {
            have += n;
            C.due("type of " + n, x.type(-1L, n), have);
            C.due("bytes behind it", x.count(6), have);
        }
    }

    /** The bytes of v above the n-th are full of bits, which begin no TOKEN. */
    private static void takesTheLowestBytesAlone() {
        String text = "a+b+c+1;";
        for (int n = 1; n <= 8; n++) {
            NoughtSums x = Checks.typed(new NoughtSums(), text.substring(0, 8 - n));
            long above = n == 8 ? 0 : -1L << (8 * n);
            C.due("type of the last " + n, x.type(packed(text.substring(8 - n)) | above, n), 8);
            C.due("given behind it", x.given(), 1);
            C.due("the sum", x.line(0), 1 | 1L << 1 | 1L << 2 | 1L << 4);
        }
        NoughtSums x = new NoughtSums();
        C.due("the lowest byte of a text", x.type(packed("abcdef; "), 1), 1);
        C.due("a blank alone", x.given(), 0);
    }

    private static void takesTheHighestOfThemFirst() {
        NoughtSums x = new NoughtSums();
        x.type(packed("ab"), 2);
        x.type(packed("+;"), 2);
        C.due("the fault behind +", x.given(), -13);
        x.clear();
        x.type(packed(";+"), 2);
        C.due("the fault at ;", x.given(), -10);
        NoughtSums y = new NoughtSums();
        y.type(packed("a;b;c;d;"), 8);
        C.due("four sums", y.given(), 4);
        for (int i = 0; i < 4; i++) {
            C.due("sum " + i, y.line(i), 1L << (1 << i));
        }
    }

    private static void refusesOtherNumbersOfBytes() {
        NoughtSums x = Checks.full();
        Checks.typed(x, "a+");
        String ahead = Checks.told(x);
        C.due("no byte", x.type(packed("b;"), 0), NoughtSums.BAD);
        C.due("nine bytes", x.type(packed("b;"), 9), NoughtSums.BAD);
        for (int n : Checks.outside(1, 8)) {
            C.due("type of " + n, x.type(packed("b;"), n), NoughtSums.BAD);
        }
        C.same("type with a bad n", ahead, Checks.told(x));
        C.due("the text goes on", x.type(packed("b;"), 2), 4);
        C.due("and is read", x.given(), 1);
        C.due("the sum", x.line(0), 6);
    }

    private static void takesFourHundredBytes() {
        NoughtSums x = new NoughtSums();
        for (int k = 1; k <= 50; k++) {
            C.due("eight bytes for the time " + k, x.type(-1L, 8), 8 * k);
        }
        C.due("bytes", x.count(6), 400);
        for (int n = 1; n <= 8; n++) {
            NoughtSums y = withBytes(400 - n);
            C.due("the last " + n, y.type(packed("a;a;a;a;") >>> 8 * (8 - n), n), 400);
        }
    }

    private static void refusesWhatDoesNotFitWhole() {
        for (int have = 392; have <= 400; have++) {
            NoughtSums x = withBytes(have);
            for (int n = 8; n > 400 - have; n--) {
                C.due("type of " + n + " behind " + have, x.type(packed("a;"), n), NoughtSums.FULL);
                C.due("bytes", x.count(6), have);
            }
            if (have < 400) {
                C.due("what fits, behind " + have, x.type(0, 400 - have), 400);
            }
        }
    }

    private static void saysBadAheadOfFull() {
        NoughtSums x = withBytes(400);
        for (int n : Checks.outside(1, 8)) {
            C.due("type of " + n + " behind 400", x.type(0, n), NoughtSums.BAD);
        }
        C.due("type of 1 behind 400", x.type(0, 1), NoughtSums.FULL);
        C.due("bytes", x.count(6), 400);
    }

    /** A part of what was refused as FULL would be read as a second SUM. */
    private static void keepsTheTextAcrossRefusedCalls() {
        NoughtSums x = Checks.full();
        Checks.typed(x, " ".repeat(393) + "f;");
        String ahead = Checks.told(x);
        C.due("six bytes behind 395", x.type(packed("a;b;c;"), 6), NoughtSums.FULL);
        C.due("eight bytes behind 395", x.type(packed("a;b;c;d;"), 8), NoughtSums.FULL);
        C.same("a type that is FULL", ahead, Checks.told(x));
        C.due("five bytes", x.type(packed("a;b; "), 5), 400);
        C.due("given", x.given(), 3);
        C.due("the first", x.line(0), 1L << 32);
        C.due("the second", x.line(1), 2);
        C.due("the third", x.line(2), 4);
    }

    private static void goesOnBehindGivenAndProof() {
        NoughtSums x = Checks.made("a;", "claim ab;");
        C.due("the text begins anew", x.type(packed("b;"), 2), 2);
        C.due("given", x.given(), 1);
        C.due("begins anew behind given", x.type(packed("b"), 1), 1);
        C.due("clear", x.clear(), 1);
        C.due("begins anew behind clear", x.type(packed("c"), 1), 1);
    }
}
