/**
 * Promise 18, base: the k-th SUM of BASE: in ORDER, of each PRODUCT that is not STANDING, while all that it has with a
 * LETTER less are: it and its LEFT, added. 0: BAD.
 */
public final class Promise18BaseTest {
    private static final Checks C = new Checks("Promise18BaseTest");

    public static void main(String[] args) {
        ordinaryBase();
        noneInAllWorlds();
        oneAloneInNoWorld();
        lettersInOneWorld();
        lastProductAlone();
        twentyAtMost();
        inOrder();
        productsWithALetterLessMustStand();
        refusesOtherNumbers();
        goesWithGiven();
        C.finish();
    }

    private static void dueBase(String given, String... sums) {
        NoughtSums x = Checks.made(given);
        C.due("count behind " + given, x.count(3), sums.length);
        for (int k = 0; k < sums.length; k++) {
            C.due("base " + k + " behind " + given, x.base(k), Checks.made(sums[k] + ";").line(0));
        }
        C.due("behind the last of " + given, x.base(sums.length), 0);
        C.due("ahead of the first of " + given, x.base(-1), 0);
    }

    private static void ordinaryBase() {
        dueBase("b+a;c+1;", "b+a", "c+1");
        dueBase("f+ab;bc+a;", "f+a", "ab+a", "ac+a", "bc+a");
        dueBase("ab;", "ab");
        dueBase("a+b;a;", "a", "b");
    }

    private static void noneInAllWorlds() {
        dueBase("");
        dueBase("0;");
        C.due("of a new object", new NoughtSums().base(0), 0);
        C.due("its count", new NoughtSums().count(3), 0);
    }

    /** 1 has no PRODUCT with a LETTER less, and every other one has it among its own. */
    private static void oneAloneInNoWorld() {
        dueBase("1;", "1");
        dueBase("a;a+1;", "1");
        dueBase("abcdef;abcdef+1;", "1");
    }

    private static void lettersInOneWorld() {
        dueBase("a;b;c;d;e;f;", "a", "b", "c", "d", "e", "f");
        dueBase("f+1;e;d;c+1;b;a+1;", "a+1", "b", "c+1", "d", "e", "f+1");
    }

    private static void lastProductAlone() {
        dueBase("abcdef;", "abcdef");
        dueBase(Checks.sum(-1L) + ";", Checks.sum(-1L));
    }

    /** No more PRODUCTS than those of three LETTERS can be without one that has another one's LETTERS, too. */
    private static void twentyAtMost() {
        StringBuilder three = new StringBuilder();
        StringBuilder four = new StringBuilder();
        String[] want = new String[20];
        int found = 0;
        for (int product = 0; product < 64; product++) {
            if (Integer.bitCount(product) == 3) {
                three.append(found == 0 ? "" : "+").append(Checks.product(product));
                want[found] = Checks.product(product);
                found++;
            }
            if (Integer.bitCount(product) == 4) {
                four.append(four.length() == 0 ? "" : "+").append(Checks.product(product));
            }
        }
        C.due("products of three letters", found, 20);
        // Of w letters that are 1 the products of three are odd in number for w = 3, those of four for w = 4, 5, 6.
        dueBase(three + ";" + four + ";", want);
        NoughtSums x = Checks.made(three + ";" + four + ";");
        C.due("the last", x.base(19), 1L << 56);
        C.due("behind it", x.base(20), 0);
        C.due("and 32 on", x.base(32), 0);
    }

    private static void inOrder() {
        dueBase("f;ab;", "f", "ab");
        dueBase("ab;f;", "f", "ab");
        dueBase("cdef;ab;", "ab", "cdef");
        dueBase("af;bcd;", "af", "bcd");
        dueBase("ad;bc;", "bc", "ad");
    }

    private static void productsWithALetterLessMustStand() {
        dueBase("a;ab;abc;abcdef;", "a");
        dueBase("ab;abc;", "ab");
        dueBase("ab;ac;bc;", "ab", "ac", "bc");
        dueBase("abc;abd;acd;bcd;abcd;", "abc", "abd", "acd", "bcd");
    }

    private static void refusesOtherNumbers() {
        NoughtSums x = Checks.made("b+a;c+1;", "add 0 1;");
        String ahead = Checks.told(x);
        for (int k : Checks.outside(0, 1)) {
            C.due("base " + k, x.base(k), 0);
        }
        C.same("refused calls", ahead, Checks.told(x));
        C.due("the first", x.base(0), 6);
        C.due("the last", x.base(1), 17);
    }

    private static void goesWithGiven() {
        NoughtSums x = Checks.made("a;");
        C.due("base", x.base(0), 2);
        Checks.proof(x, "claim ab;");
        C.due("a proof changes nothing", x.base(0), 2);
        C.due("a fault", Checks.given(x, "b;?"), -12);
        C.due("nor does a fault", x.base(0), 2);
        Checks.given(x, "b;");
        C.due("given anew", x.base(0), 4);
    }
}
