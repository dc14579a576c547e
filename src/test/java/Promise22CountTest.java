/**
 * Promise 22, count: 0 GIVEN, 1 LINES of THE PROOF, 2 STEPS told, 3 SUMS of BASE, 4 FREE, 5 WORLDS of COMMON, 6 bytes
 * of THE TEXT. BAD.
 */
public final class Promise22CountTest {
    private static final Checks C = new Checks("Promise22CountTest");

    public static void main(String[] args) {
        ordinaryCounts();
        nothingAtAll();
        mostOfAll();
        noWorld();
        linesAreFewerThanStepsBehindAWrongClaim();
        freeAndWorldsAre64Together();
        bytesOfTheText();
        refusedCallsCountNothing();
        refusesOtherNumbers();
        C.finish();
    }

    private static void dueCounts(String at, NoughtSums x, int... want) {
        for (int what = 0; what < 7; what++) {
            C.due(at + ", count " + what, x.count(what), want[what]);
        }
    }

    private static void ordinaryCounts() {
        NoughtSums x = Checks.made("a+b;c;", "add 0 1;claim a;add 0 0;");
        Checks.typed(x, "abc");
        dueCounts("ordinary", x, 2, 1, 3, 2, 48, 16, 3);
    }

    private static void nothingAtAll() {
        dueCounts("a new object", new NoughtSums(), 0, 0, 0, 0, 0, 64, 0);
        dueCounts("nought given", Checks.made("0;", ""), 1, 0, 0, 0, 0, 64, 0);
    }

    private static void mostOfAll() {
        NoughtSums x = Checks.full();
        Checks.typed(x, "?".repeat(400));
        dueCounts("a full object", x, 8, 24, 24, 6, 63, 1, 400);
    }

    private static void noWorld() {
        dueCounts("1", Checks.made("1;"), 1, 0, 0, 1, 64, 0, 0);
        dueCounts("a and a+1", Checks.made("a;a+1;", "claim 1;"), 2, 1, 1, 1, 64, 0, 0);
    }

    private static void linesAreFewerThanStepsBehindAWrongClaim() {
        for (int steps = 1; steps <= 24; steps++) {
            NoughtSums x = Checks.made("a;", "claim b;" + "add 0 0;".repeat(steps - 1));
            C.due("lines of " + steps, x.count(1), 0);
            C.due("steps of " + steps, x.count(2), steps);
            NoughtSums y = Checks.made("a;", "add 0 0;".repeat(steps - 1) + "claim b;");
            C.due("lines of " + steps, y.count(1), steps - 1);
            C.due("steps of " + steps, y.count(2), steps);
        }
    }

    private static void freeAndWorldsAre64Together() {
        for (int worlds = 0; worlds <= 64; worlds++) {
            long common = worlds == 64 ? -1L : (1L << worlds) - 1;
            NoughtSums x = Checks.made(Checks.sum(Checks.sumOfWorlds(~common)) + ";");
            C.due("free with " + worlds, x.count(4), 64 - worlds);
            C.due("worlds with " + worlds, x.count(5), worlds);
        }
    }

    private static void bytesOfTheText() {
        NoughtSums x = new NoughtSums();
        for (int bytes = 0; bytes < 200; bytes++) {
            C.due("bytes", x.count(6), bytes);
            x.type('a', 1);
        }
        x.clear();
        C.due("behind clear", x.count(6), 0);
        Checks.typed(x, "a;");
        x.given();
        C.due("behind given", x.count(6), 0);
        Checks.typed(x, "claim a;");
        x.proof();
        C.due("behind proof", x.count(6), 0);
    }

    private static void refusedCallsCountNothing() {
        NoughtSums x = Checks.made("a;", "claim ab;");
        Checks.typed(x, "b;c;;");
        C.due("a fault", x.given(), -14);
        dueCounts("behind a fault of given", x, 1, 1, 1, 1, 32, 32, 5);
        C.due("a fault", x.proof(), -10);
        dueCounts("behind a fault of the proof", x, 1, 1, 1, 1, 32, 32, 5);
    }

    private static void refusesOtherNumbers() {
        NoughtSums x = Checks.full();
        String ahead = Checks.told(x);
        for (int what : Checks.outside(0, 6)) {
            C.due("count " + what, x.count(what), NoughtSums.BAD);
        }
        C.same("refused calls", ahead, Checks.told(x));
    }
}
