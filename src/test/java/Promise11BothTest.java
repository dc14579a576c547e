/** Promise 11, both: LINES multiplied (what = 0), added (1). 0: BAD, too. */
public final class Promise11BothTest {
    private static final Checks C = new Checks("Promise11BothTest");

    public static void main(String[] args) {
        ordinarySums();
        itselfAndNothing();
        eachProductWithEach();
        alikeGoAwayTwoByTwo();
        firstAndLastLine();
        refusesOtherNumbers();
        C.finish();
    }

    private static void ordinarySums() {
        NoughtSums x = Checks.made("a+b;a+1;", "claim abc+bc+c;");
        C.due("times", x.both(0, 1, 0), 1L << 3 | 1L << 2);
        C.due("times, turned", x.both(1, 0, 0), 1L << 3 | 1L << 2);
        C.due("plus", x.both(0, 1, 1), 5);
        C.due("plus, turned", x.both(1, 0, 1), 5);
    }

    private static void itselfAndNothing() {
        NoughtSums x = Checks.made("abcdef+1;0;1;" + Checks.sum(-1L) + ";");
        for (int i = 0; i < 4; i++) {
            C.due("itself times " + i, x.both(i, i, 0), x.line(i));
            C.due("itself plus " + i, x.both(i, i, 1), 0);
            C.due("nought times " + i, x.both(i, 1, 0), 0);
            C.due("nought plus " + i, x.both(1, i, 1), x.line(i));
            C.due("one times " + i, x.both(2, i, 0), x.line(i));
            C.due("one plus " + i, x.both(i, 2, 1), x.line(i) ^ 1);
        }
    }

    private static void eachProductWithEach() {
        for (int p = 0; p < 64; p++) {
            for (int q = p; q < 64; q++) {
                NoughtSums x = Checks.made(Checks.product(p) + ";" + Checks.product(q) + ";");
                C.due(p + " times " + q, x.both(0, 1, 0), 1L << (p | q));
                C.due(p + " plus " + q, x.both(0, 1, 1), 1L << p ^ 1L << q);
            }
        }
    }

    private static void alikeGoAwayTwoByTwo() {
        NoughtSums x = Checks.made("a+ab;b+1;a+b+ab;a+1;" + Checks.sum(-1L) + ";abc+1;");
        C.due("two alike, twice", x.both(0, 3, 0), 0);
        C.due("three alike", x.both(0, 1, 0), 1L << 1 | 1L << 3);
        C.due("five alike", x.both(0, 2, 0), 1L << 1 | 1L << 3);
        C.due("none alike", x.both(1, 3, 0), 15);
        C.due("all products by b+1", x.both(4, 1, 0), -1L);
        C.due("all products by abc+1", x.both(4, 5, 0), -1L);
        C.due("all products with abc+1", x.both(4, 5, 1), ~(1L << 7 | 1));
    }

    private static void firstAndLastLine() {
        NoughtSums x = Checks.full();
        C.due("the last and itself", x.both(31, 31, 0), x.line(31));
        C.due("the first and the last", x.both(0, 31, 1), x.line(31) ^ 2);
        C.due("the last and the first", x.both(31, 0, 1), x.line(31) ^ 2);
        C.due("behind the last", x.both(0, 32, 1), 0);
        C.due("behind the last", x.both(32, 0, 1), 0);
    }

    private static void refusesOtherNumbers() {
        NoughtSums x = Checks.made("a+b;a+1;", "add 0 1;claim abc;add 0 0;");
        String ahead = Checks.told(x);
        int last = x.count(0) + x.count(1) - 1;
        for (int bad : Checks.outside(0, last)) {
            for (int what = 0; what <= 1; what++) {
                C.due("i " + bad, x.both(bad, 0, what), 0);
                C.due("j " + bad, x.both(0, bad, what), 0);
                C.due("both " + bad, x.both(bad, bad, what), 0);
            }
        }
        for (int what : Checks.outside(0, 1)) {
            C.due("what " + what, x.both(0, 1, what), 0);
        }
        C.same("refused calls", ahead, Checks.told(x));
    }
}
