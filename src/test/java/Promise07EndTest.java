/** Promise 7, end: the first LINE that is the SUM 1; NONE. */
public final class Promise07EndTest {
    private static final Checks C = new Checks("Promise07EndTest");

    public static void main(String[] args) {
        noneWithoutLines();
        noneIfNoLineIsOne();
        eachGivenMayBeIt();
        eachStepMayBeIt();
        firstOfSeveral();
        wrongClaimsAreNoLines();
        goesWithItsLines();
        C.finish();
    }

    private static void noneWithoutLines() {
        C.due("of a new object", new NoughtSums().end(), NoughtSums.NONE);
        C.due("of no given", Checks.made("").end(), NoughtSums.NONE);
    }

    /** Neither the SUM without PRODUCTS nor one that has 1 among others is the SUM 1. */
    private static void noneIfNoLineIsOne() {
        C.due("near ones", Checks.made("a+1;0;1+1;abcdef+1;a;b+1;").end(), NoughtSums.NONE);
        C.due("no world, but no line yet", Checks.made("a;a+1;", "add 0 0;claim f;").end(), NoughtSums.NONE);
    }

    private static void eachGivenMayBeIt() {
        for (int i = 0; i < 8; i++) {
            C.due("given " + i, Checks.made("a;".repeat(i) + "1;" + "b;".repeat(7 - i)).end(), i);
        }
    }

    private static void eachStepMayBeIt() {
        for (int step = 0; step < 24; step++) {
            String proof = "add 0 0;".repeat(step) + "add 0 1;" + "add 0 0;".repeat(23 - step);
            C.due("step " + step, Checks.made("a;a+1;", proof).end(), 2 + step);
        }
        String last = "add 0 0;".repeat(23) + "add 0 1;";
        C.due("line 31", Checks.made("a;a+1;0;0;0;0;0;0;", last).end(), 31);
    }

    private static void firstOfSeveral() {
        C.due("of two given", Checks.made("a;1;1;").end(), 1);
        C.due("given ahead of the proof", Checks.made("a;1;", "claim 1;").end(), 1);
        C.due("of two steps", Checks.made("a;a+1;", "add 0 0;claim 1;add 0 1;").end(), 3);
    }

    private static void wrongClaimsAreNoLines() {
        C.due("a wrong claim", Checks.made("a;", "claim 1;").end(), NoughtSums.NONE);
        NoughtSums x = Checks.made("a;a+1;", "claim 1;");
        C.due("a right one", x.end(), 2);
        C.due("behind other given", Checks.given(x, "a;b;"), 2);
        Checks.proof(x, "claim b+a;claim 1;");
        C.due("a wrong one where a right one was", x.end(), NoughtSums.NONE);
    }

    private static void goesWithItsLines() {
        NoughtSums x = Checks.made("a;a+1;", "claim 1;");
        C.due("a refused proof", Checks.proof(x, "?"), -10);
        C.due("the end stays", x.end(), 2);
        C.due("a proof without it", Checks.proof(x, "add 0 0;"), 1);
        C.due("none", x.end(), NoughtSums.NONE);
        Checks.given(x, "1;");
        C.due("given", x.end(), 0);
        Checks.given(x, "");
        C.due("none given", x.end(), NoughtSums.NONE);
    }
}
