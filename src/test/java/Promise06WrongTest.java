/** Promise 6, wrong: the STEP of the first claim that is not right; NONE. It and what is behind it have no LINES. */
public final class Promise06WrongTest {
    private static final Checks C = new Checks("Promise06WrongTest");

    public static void main(String[] args) {
        noneWithoutAProof();
        noneIfAllClaimsAreRight();
        eachStepMayBeIt();
        firstOfSeveral();
        hasNoLines();
        otherStepsAreNeverWrong();
        goesWithItsProof();
        staysBehindARefusedProof();
        C.finish();
    }

    private static void dueWrong(String given, String proof, int want) {
        C.due("wrong of '" + proof + "' behind '" + given + "'", Checks.made(given, proof).wrong(), want);
    }

    private static void noneWithoutAProof() {
        C.due("of a new object", new NoughtSums().wrong(), NoughtSums.NONE);
        C.due("behind given", Checks.made("a;").wrong(), NoughtSums.NONE);
        dueWrong("a;", "", NoughtSums.NONE);
    }

    private static void noneIfAllClaimsAreRight() {
        dueWrong("a;", "claim 0;claim a;claim ab;", NoughtSums.NONE);
        dueWrong("a;", "claim ab;".repeat(24), NoughtSums.NONE);
        dueWrong("1;", "claim 1;claim abcdef;claim f;", NoughtSums.NONE);
        dueWrong("", "claim 0;claim f+f;", NoughtSums.NONE);
    }

    /** Its number is the STEP's in THE PROOF, from 0 on, whatever is GIVEN. */
    private static void eachStepMayBeIt() {
        for (int step = 0; step < 24; step++) {
            String proof = "claim 0;".repeat(step) + "claim b;" + "claim 0;".repeat(23 - step);
            dueWrong("a;", proof, step);
            dueWrong("", proof, step);
            dueWrong("a;c;d;e;f;0;0;0;", proof, step);
            C.due("lines ahead of step " + step, Checks.made("a;", proof).count(1), step);
            C.due("steps told", Checks.made("a;", proof).count(2), 24);
        }
    }

    private static void firstOfSeveral() {
        dueWrong("a;", "claim b;claim c;", 0);
        dueWrong("a;", "claim a;claim 1;claim c;claim 1;", 1);
        dueWrong("a;", "add 0 0;by 0 b;claim b;claim a;claim b;", 2);
    }

    private static void hasNoLines() {
        NoughtSums x = Checks.made("a+b;c;", "add 0 1;claim ac;claim a;by 4 f;claim b;add 3 3;");
        C.due("wrong", x.wrong(), 2);
        C.due("lines", x.count(1), 2);
        C.due("steps told", x.count(2), 6);
        C.due("the last line", x.value(3, 0), 0);
        for (int i = 4; i < 9; i++) {
            C.due("line " + i, x.line(i), 0);
            C.due("value " + i, x.value(i, 0), NoughtSums.BAD);
            C.due("follows " + i, x.follows(i), NoughtSums.BAD);
        }
        NoughtSums y = Checks.made("a;", "claim 1;claim a;");
        C.due("no end by a wrong claim", y.end(), NoughtSums.NONE);
    }

    private static void otherStepsAreNeverWrong() {
        dueWrong("a;1;", "add 0 1;by 0 f;times 0 1;", NoughtSums.NONE);
        dueWrong("a+b+1;b;", "add 0 1;times 0 2;by 2 c;", NoughtSums.NONE);
    }

    private static void goesWithItsProof() {
        NoughtSums x = Checks.made("a;", "claim a;claim b;");
        C.due("wrong", x.wrong(), 1);
        C.due("a right proof", Checks.proof(x, "claim a;"), 1);
        C.due("none then", x.wrong(), NoughtSums.NONE);
        Checks.proof(x, "claim b;");
        C.due("wrong again", x.wrong(), 0);
        Checks.proof(x, "");
        C.due("none by the empty proof", x.wrong(), NoughtSums.NONE);
        Checks.proof(x, "claim b;");
        Checks.given(x, "a;");
        C.due("none by given", x.wrong(), NoughtSums.NONE);
    }

    private static void staysBehindARefusedProof() {
        NoughtSums x = Checks.made("a;", "claim a;claim b;");
        C.due("a fault", Checks.proof(x, "claim a;?"), -18);
        C.due("wrong", x.wrong(), 1);
        C.due("a fault of given", Checks.given(x, "a;?"), -12);
        C.due("wrong", x.wrong(), 1);
        C.due("asked twice", x.wrong(), 1);
    }
}
