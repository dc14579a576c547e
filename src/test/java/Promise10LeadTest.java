/**
 * Promise 10, lead: DEGREE of a LINE (what = 0), LEAD (1); NONE. BAD. LEAD is the last PRODUCT in ORDER: by how many
 * LETTERS they have, then as numbers.
 */
public final class Promise10LeadTest {
    private static final Checks C = new Checks("Promise10LeadTest");

    public static void main(String[] args) {
        ordinaryLeads();
        degreesFromNoughtToSix();
        noneOfTheSumWithoutProducts();
        lastInOrderOfEachPair();
        leadOfAllProducts();
        refusesOtherNumbers();
        C.finish();
    }

    private static void ordinaryLeads() {
        NoughtSums x = Checks.made("f+ab;f+e;0;1;abcdef+1;def+abc;");
        int[] degrees = {2, 1, -9, 0, 6, 3};
        int[] leads = {3, 32, -9, 0, 63, 56};
        for (int i = 0; i < 6; i++) {
            C.due("degree " + i, x.lead(i, 0), degrees[i]);
            C.due("lead " + i, x.lead(i, 1), leads[i]);
        }
    }

    private static void degreesFromNoughtToSix() {
        NoughtSums x = Checks.made("1;1+a;1+ab;1+abc;1+abcd;1+abcde;1+abcdef;");
        for (int degree = 0; degree <= 6; degree++) {
            C.due("degree " + degree, x.lead(degree, 0), degree);
            C.due("lead of degree " + degree, x.lead(degree, 1), (1 << degree) - 1);
        }
    }

    private static void noneOfTheSumWithoutProducts() {
        NoughtSums x = Checks.made("0;a+a;a;", "add 2 2;");
        for (int i : new int[] {0, 1, 3}) {
            C.due("degree " + i, x.lead(i, 0), NoughtSums.NONE);
            C.due("lead " + i, x.lead(i, 1), NoughtSums.NONE);
            C.due("a bad what", x.lead(i, 2), NoughtSums.BAD);
            C.due("a bad what", x.lead(i, -1), NoughtSums.BAD);
        }
        C.due("a degree of nought is none of these", Checks.made("1;").lead(0, 0), 0);
    }

    private static void lastInOrderOfEachPair() {
        for (int p = 0; p < 64; p++) {
            for (int q = p + 1; q < 64; q++) {
                NoughtSums x = Checks.made(Checks.product(p) + "+" + Checks.product(q) + ";");
                int want = Integer.bitCount(q) >= Integer.bitCount(p) ? q : p;
                C.due("lead of " + p + " and " + q, x.lead(0, 1), want);
                C.due("degree of them", x.lead(0, 0), Integer.bitCount(want));
            }
        }
    }

    private static void leadOfAllProducts() {
        NoughtSums x = Checks.made(Checks.sum(-1L) + ";");
        C.due("lead of all", x.lead(0, 1), 63);
        C.due("degree of all", x.lead(0, 0), 6);
        NoughtSums y = Checks.made(Checks.sum(Long.MAX_VALUE) + ";");
        C.due("lead of all but abcdef", y.lead(0, 1), 62);
        C.due("degree of them", y.lead(0, 0), 5);
    }

    private static void refusesOtherNumbers() {
        NoughtSums x = Checks.made("a;b;", "add 0 1;claim 1;");
        String ahead = Checks.told(x);
        for (int i : Checks.outside(0, 2)) {
            C.due("degree of line " + i, x.lead(i, 0), NoughtSums.BAD);
            C.due("lead of line " + i, x.lead(i, 1), NoughtSums.BAD);
        }
        for (int what : Checks.outside(0, 1)) {
            C.due("what " + what, x.lead(0, what), NoughtSums.BAD);
            C.due("what " + what + " of no line", x.lead(3, what), NoughtSums.BAD);
        }
        C.same("refused calls", ahead, Checks.told(x));
        C.due("the last of 32", Checks.full().lead(31, 0), 4);
        C.due("behind it", Checks.full().lead(32, 0), NoughtSums.BAD);
    }
}
