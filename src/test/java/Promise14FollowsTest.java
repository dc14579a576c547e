/**
 * Promise 14, follows: whether a LINE FOLLOWS: its VALUE is 0 in all COMMON WORLDS. BAD. As each STEP makes what
 * follows from what follows, and wrong claims have no LINES, each LINE does.
 */
public final class Promise14FollowsTest {
    private static final Checks C = new Checks("Promise14FollowsTest");

    public static void main(String[] args) {
        everyLineFollows();
        allFollowsInNoWorld();
        noughtFollowsInAllWorlds();
        refusesOtherLines();
        C.finish();
    }

    private static void everyLineFollows() {
        NoughtSums x = Checks.made("a;b;0;", "claim ab;add 0 1;by 1 f;times 0 1;claim a+b+abcdef;");
        for (int i = 0; i < 8; i++) {
            C.due("line " + i, x.follows(i), 1);
        }
        NoughtSums full = Checks.full();
        for (int i = 0; i < 32; i++) {
            C.due("line " + i + " of 32", full.follows(i), 1);
        }
        C.due("behind them", full.follows(32), NoughtSums.BAD);
    }

    private static void allFollowsInNoWorld() {
        NoughtSums x = Checks.made("1;", "claim 1;claim abcdef;claim " + Checks.sum(-1L) + ";");
        for (int i = 0; i < 4; i++) {
            C.due("line " + i, x.follows(i), 1);
        }
    }

    private static void noughtFollowsInAllWorlds() {
        NoughtSums x = Checks.made("", "claim 0;add 0 0;claim 1;");
        C.due("nought", x.follows(0), 1);
        C.due("nought and nought", x.follows(1), 1);
        C.due("one has no line", x.follows(2), NoughtSums.BAD);
    }

    private static void refusesOtherLines() {
        NoughtSums x = Checks.made("a;b;", "claim ab;add 0 1;claim c;claim a;");
        String ahead = Checks.told(x);
        for (int i : Checks.outside(0, 3)) {
            C.due("line " + i, x.follows(i), NoughtSums.BAD);
        }
        C.due("behind the wrong claim", x.follows(5), NoughtSums.BAD);
        C.same("refused calls", ahead, Checks.told(x));
        C.due("the first", x.follows(0), 1);
        C.due("the last", x.follows(3), 1);
    }
}
