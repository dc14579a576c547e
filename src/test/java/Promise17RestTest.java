/** Promise 17, rest: LEFT of any SUM: the one SUM of STANDING PRODUCTS that has its VALUES in COMMON. */
public final class Promise17RestTest {
    private static final Checks C = new Checks("Promise17RestTest");
    private static final long[] SUMS = {
        0, 1, 2, 3, -1L, -2L, Long.MIN_VALUE, Long.MAX_VALUE, 1L << 62, 1L << 32, 0x5555555555555555L,
        0x123456789ABCDEFL, 0xFEDCBA9876543210L
    };

    public static void main(String[] args) {
        ordinarySums();
        itselfInAllWorlds();
        nothingInNoWorld();
        itsValueInOneWorld();
        hasStandingProductsAndTheSameValues();
        restOfARestIsItself();
        changesNothing();
        C.finish();
    }

    private static void ordinarySums() {
        NoughtSums x = Checks.made("a+b;c+1;");
        C.due("b", x.rest(1L << 2), 2);
        C.due("abc", x.rest(1L << 7), 2);
        C.due("c", x.rest(1L << 4), 1);
        C.due("a+b", x.rest(6), 0);
        C.due("abd", x.rest(1L << 11), 1L << 9);
        C.due("ab is f", Checks.made("f+ab;").rest(1L << 3), 1L << 32);
        C.due("what stands", x.rest(1L << 9 | 1), 1L << 9 | 1);
    }

    private static void itselfInAllWorlds() {
        NoughtSums x = new NoughtSums();
        NoughtSums y = Checks.made("0;a+a;");
        for (long sum : SUMS) {
            C.due("of a new object " + sum, x.rest(sum), sum);
            C.due("of nought " + sum, y.rest(sum), sum);
        }
    }

    private static void nothingInNoWorld() {
        NoughtSums x = Checks.made("1;");
        for (long sum : SUMS) {
            C.due("rest of " + sum, x.rest(sum), 0);
        }
    }

    private static void itsValueInOneWorld() {
        NoughtSums first = Checks.made("a;b;c;d;e;f;");
        NoughtSums last = Checks.made("a+1;b+1;c+1;d+1;e+1;f+1;");
        for (long sum : SUMS) {
            C.due("in world 0 " + sum, first.rest(sum), sum & 1);
            C.due("in world 63 " + sum, last.rest(sum), Long.bitCount(sum) & 1);
        }
    }

    private static long valuesOf(long sum) {
        long values = 0;
        for (int world = 0; world < 64; world++) {
            values |= (long) Oracle.value(sum, world) << world;
        }
        return values;
    }

    private static void hasStandingProductsAndTheSameValues() {
        for (String given : new String[] {"ab+c;", "abc+def;f+1;", "ab+cd+ef;", Checks.sum(-1L) + ";", "abcdef;a+b+c;"}) {
            NoughtSums x = Checks.made(given);
            for (long sum : SUMS) {
                long rest = x.rest(sum);
                C.due("products that do not stand, " + given + sum, rest & ~x.standing(), 0);
                C.due("values that differ, " + given + sum, valuesOf(rest ^ sum) & x.common(), 0);
            }
        }
    }

    private static void restOfARestIsItself() {
        NoughtSums x = Checks.made("ab+c;de+f+1;");
        for (long sum : SUMS) {
            long rest = x.rest(sum);
            C.due("rest of the rest of " + sum, x.rest(rest), rest);
        }
    }

    private static void changesNothing() {
        NoughtSums x = Checks.made("ab+c;", "claim abd+cd;claim 1;");
        Checks.typed(x, "ab");
        String ahead = Checks.told(x);
        for (long sum : SUMS) {
            x.rest(sum);
        }
        C.same("rest", ahead, Checks.told(x));
    }
}
