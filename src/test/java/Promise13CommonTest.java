/** Promise 13, common: WORLDS in which all GIVEN have VALUE 0. */
public final class Promise13CommonTest {
    private static final Checks C = new Checks("Promise13CommonTest");

    public static void main(String[] args) {
        ordinaryWorlds();
        allWorldsWithoutGiven();
        noWorld();
        eachWorldAlone();
        allWorldsButOne();
        eachOfEightCounts();
        proofChangesNothing();
        refusedGivenChangesNothing();
        C.finish();
    }

    private static void ordinaryWorlds() {
        C.due("a", Checks.made("a;").common(), 0x5555555555555555L);
        C.due("f+1", Checks.made("f+1;").common(), 0xFFFFFFFF00000000L);
        C.due("a and f+1", Checks.made("a;f+1;").common(), 0x5555555500000000L);
        C.due("ab", Checks.made("ab;").common(), 0x7777777777777777L);
    }

    private static void allWorldsWithoutGiven() {
        C.due("of a new object", new NoughtSums().common(), -1L);
        C.due("of no given", Checks.made("").common(), -1L);
        C.due("of sums without products", Checks.made("0;a+a;0;").common(), -1L);
        NoughtSums x = Checks.made("1;");
        C.due("none", x.common(), 0);
        Checks.given(x, "");
        C.due("all again", x.common(), -1L);
    }

    private static void noWorld() {
        C.due("1", Checks.made("1;").common(), 0);
        C.due("a and a+1", Checks.made("a;a+1;").common(), 0);
        C.due("six and one", Checks.made("a;b;c;d;e;f;a+b+c+d+e+f+1;").common(), 0);
    }

    private static void eachWorldAlone() {
        for (int world = 0; world < 64; world++) {
            StringBuilder given = new StringBuilder();
            for (int letter = 0; letter < 6; letter++) {
                given.append((char) ('a' + letter)).append((world >> letter & 1) == 1 ? "+1;" : ";");
            }
            C.due("world " + world, Checks.made(given.toString()).common(), 1L << world);
        }
    }

    private static void allWorldsButOne() {
        for (int world = 0; world < 64; world++) {
            String given = Checks.sum(Checks.sumOfWorlds(1L << world)) + ";";
            C.due("all but " + world, Checks.made(given).common(), ~(1L << world));
        }
    }

    private static void eachOfEightCounts() {
        for (int k = 0; k < 8; k++) {
            C.due("given " + k, Checks.made("0;".repeat(k) + "a;" + "0;".repeat(7 - k)).common(), 0x5555555555555555L);
        }
    }

    private static void proofChangesNothing() {
        C.due("a right claim", Checks.made("a;", "claim ab;").common(), 0x5555555555555555L);
        C.due("a wrong claim", Checks.made("a;", "claim b;").common(), 0x5555555555555555L);
        C.due("all steps", Checks.made("a;", "add 0 0;by 0 c;times 0 1;").common(), 0x5555555555555555L);
    }

    private static void refusedGivenChangesNothing() {
        NoughtSums x = Checks.made("a;");
        C.due("a fault", Checks.given(x, "b;1;?"), -14);
        C.due("common", x.common(), 0x5555555555555555L);
        C.due("a fault of the proof", Checks.proof(x, "claim b;?"), -18);
        C.due("common", x.common(), 0x5555555555555555L);
        C.due("given anew, not more", Checks.given(x, "b;"), 1);
        C.due("common", x.common(), 0x3333333333333333L);
    }
}
