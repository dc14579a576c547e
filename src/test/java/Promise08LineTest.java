/** Promise 8, line: a LINE's SUM. 0: BAD, too. */
public final class Promise08LineTest {
    private static final Checks C = new Checks("Promise08LineTest");

    public static void main(String[] args) {
        ordinaryLines();
        firstAndLastLine();
        eachProductIsItsBit();
        sumsFromNoneToAllProducts();
        refusesOtherNumbers();
        C.finish();
    }

    private static void ordinaryLines() {
        NoughtSums x = Checks.made("a;b+1;", "times 0 1;");
        C.due("line 0", x.line(0), 2);
        C.due("line 1", x.line(1), 5);
        C.due("line 2", x.line(2), 10);
        C.due("line 3", x.line(3), 0);
    }

    private static void firstAndLastLine() {
        NoughtSums x = Checks.made("abcdef;b;c;d;e;f;a;1;", "claim 0;".repeat(23) + "claim ef+1;");
        C.due("the first", x.line(0), 1L << 63);
        C.due("the last given", x.line(7), 1);
        C.due("the first of the proof", x.line(8), 0);
        C.due("the last", x.line(31), 1L << 48 | 1);
        C.due("behind it", x.line(32), 0);
    }

    private static void eachProductIsItsBit() {
        for (int product = 0; product < 64; product++) {
            C.due("product " + product, Checks.made(Checks.product(product) + ";").line(0), 1L << product);
        }
    }

    private static void sumsFromNoneToAllProducts() {
        long[] sums = {0, 1, Long.MIN_VALUE, Long.MAX_VALUE, -1L, -2L, 0x5555555555555555L, 0xAAAAAAAAAAAAAAAAL};
        for (long sum : sums) {
            C.due("sum " + sum, Checks.made(Checks.sum(sum) + ";").line(0), sum);
            C.due("claimed", Checks.made("1;", "claim " + Checks.sum(sum) + ";").line(1), sum);
        }
    }

    private static void refusesOtherNumbers() {
        NoughtSums x = Checks.made("a;b+1;", "times 0 1;claim 1;add 0 0;");
        String ahead = Checks.told(x);
        for (int i : Checks.outside(0, 2)) {
            C.due("line " + i, x.line(i), 0);
        }
        C.due("a wrong claim's", x.line(3), 0);
        C.due("behind a wrong claim", x.line(4), 0);
        C.same("refused calls", ahead, Checks.told(x));
        NoughtSums full = Checks.full();
        for (int i : Checks.outside(0, 31)) {
            C.due("line " + i + " of 32", full.line(i), 0);
        }
    }
}
