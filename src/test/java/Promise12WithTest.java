/** Promise 12, with: a LINE with a LETTER being 0 or 1 (v). 0: BAD, too. */
public final class Promise12WithTest {
    private static final Checks C = new Checks("Promise12WithTest");

    public static void main(String[] args) {
        ordinarySums();
        eachLetterOfEachProduct();
        alikeGoAway();
        lettersThatItHasNot();
        refusesOtherLetters();
        refusesOtherNumbers();
        C.finish();
    }

    private static void ordinarySums() {
        NoughtSums x = Checks.made("ab+b+a+1;abcdef+abcde+f;");
        C.due("a 0", x.with(0, 0, 0), 1L << 2 | 1);
        C.due("f 1", x.with(1, 5, 1), 1);
        C.due("f 0", x.with(1, 5, 0), 1L << 31);
        C.due("a 1", x.with(1, 0, 1), 1L << 62 | 1L << 30 | 1L << 32);
        C.due("the line stays", x.line(0), 15);
    }

    private static void eachLetterOfEachProduct() {
        for (int product = 0; product < 64; product++) {
            NoughtSums x = Checks.made(Checks.product(product) + ";");
            for (int letter = 0; letter < 6; letter++) {
                int without = product & ~(1 << letter);
                C.due(product + " with " + letter + " 0", x.with(0, letter, 0), without == product ? 1L << product : 0);
                C.due(product + " with " + letter + " 1", x.with(0, letter, 1), 1L << without);
            }
        }
    }

    private static void alikeGoAway() {
        NoughtSums x = Checks.made("ab+b+a+1;a+1;" + Checks.sum(-1L) + ";");
        C.due("two by two", x.with(0, 0, 1), 0);
        C.due("two by two", x.with(0, 1, 1), 0);
        C.due("a is 1: 1 and 1", x.with(1, 0, 1), 0);
        C.due("a is 0: 1", x.with(1, 0, 0), 1);
        for (int letter = 0; letter < 6; letter++) {
            C.due("all products with " + letter + " 1", x.with(2, letter, 1), 0);
            C.due("values of them", Long.bitCount(x.with(2, letter, 0)), 32);
        }
    }

    private static void lettersThatItHasNot() {
        NoughtSums x = Checks.made("ab+b+a+1;0;1;");
        for (int letter = 2; letter < 6; letter++) {
            C.due("0", x.with(0, letter, 0), 15);
            C.due("1", x.with(0, letter, 1), 15);
        }
        for (int letter = 0; letter < 6; letter++) {
            for (int v = 0; v <= 1; v++) {
                C.due("of nought", x.with(1, letter, v), 0);
                C.due("of one", x.with(2, letter, v), 1);
            }
        }
    }

    private static void refusesOtherLetters() {
        NoughtSums x = Checks.made("1;");
        String ahead = Checks.told(x);
        for (int letter : Checks.outside(0, 5)) {
            C.due("letter " + letter, x.with(0, letter, 0), 0);
            C.due("letter " + letter, x.with(0, letter, 1), 0);
        }
        C.same("refused calls", ahead, Checks.told(x));
        C.due("the first letter", x.with(0, 0, 0), 1);
        C.due("the last letter", x.with(0, 5, 1), 1);
    }

    private static void refusesOtherNumbers() {
        NoughtSums x = Checks.made("1;a+1;", "add 0 1;");
        String ahead = Checks.told(x);
        for (int v : Checks.outside(0, 1)) {
            C.due("v " + v, x.with(0, 0, v), 0);
        }
        for (int i : Checks.outside(0, 2)) {
            C.due("line " + i, x.with(i, 5, 0), 0);
            C.due("line " + i, x.with(i, 5, 1), 0);
        }
        C.same("refused calls", ahead, Checks.told(x));
        C.due("the last line", x.with(2, 5, 0), 2);
        NoughtSums full = Checks.full();
        C.due("the last of 32, f being 0", full.with(31, 5, 0), 6);
        C.due("behind it", full.with(32, 5, 0), 0);
    }
}
