/**
 * Promise 15, standing: PRODUCTS, taken in ORDER, each whose VALUES in COMMON are not those of some sum of STANDING
 * ones ahead of it.
 */
public final class Promise15StandingTest {
    private static final Checks C = new Checks("Promise15StandingTest");
    private static final long ALL_BUT_ABCDEF = Long.MAX_VALUE;

    public static void main(String[] args) {
        ordinaryProducts();
        allStandInAllWorlds();
        noneStandsInNoWorld();
        oneStandsInEachWorldAlone();
        allButTheLastStandInAllWorldsButOne();
        takenInOrder();
        asManyAsWorlds();
        goesWithGiven();
        C.finish();
    }

    private static void ordinaryProducts() {
        C.due("a+b: b does not stand", Checks.made("a+b;").standing(), 0x3333333333333333L);
        C.due("ab", Checks.made("ab;").standing(), 0x7777777777777777L);
        C.due("a+1", Checks.made("a+1;").standing(), 0x5555555555555555L);
    }

    private static void allStandInAllWorlds() {
        C.due("of a new object", new NoughtSums().standing(), -1L);
        C.due("of no given", Checks.made("").standing(), -1L);
        C.due("of nought", Checks.made("0;").standing(), -1L);
    }

    private static void noneStandsInNoWorld() {
        C.due("1", Checks.made("1;").standing(), 0);
        C.due("a and a+1", Checks.made("a;a+1;").standing(), 0);
    }

    /** The SUM of no STANDING ones has VALUE 0, so a PRODUCT that is 0 in all of COMMON never stands. */
    private static void oneStandsInEachWorldAlone() {
        for (int world = 0; world < 64; world++) {
            String given = Checks.sum(Checks.sumOfWorlds(1L << world) ^ 1) + ";";
            C.due("world " + world, Checks.made(given).standing(), 1);
        }
    }

    private static void allButTheLastStandInAllWorldsButOne() {
        for (int world = 0; world < 64; world++) {
            String given = Checks.sum(Checks.sumOfWorlds(1L << world)) + ";";
            C.due("all worlds but " + world, Checks.made(given).standing(), ALL_BUT_ABCDEF);
        }
    }

    /** Two WORLDS: 1 stands, and the first LETTER in which they differ. */
    private static void takenInOrder() {
        for (int one = 0; one < 64; one += 3) {
            for (int other = one + 1; other < 64; other++) {
                String given = Checks.sum(Checks.sumOfWorlds(~(1L << one | 1L << other))) + ";";
                int letter = Integer.numberOfTrailingZeros(one ^ other);
                C.due(one + " and " + other, Checks.made(given).standing(), 1L | 1L << (1 << letter));
            }
        }
        C.due("f+ab: f is ahead of ab", Checks.made("f+ab;").standing(), 0x1111111177777777L);
        C.due("abc+f: abc is behind f", Checks.made("abc+f;").standing() >>> 7 & 1, 0);
        C.due("ad+bc: bc (6) is ahead of ad (9)", Checks.made("ad+bc;").standing() >>> 6 & 9, 1);
    }

    private static void asManyAsWorlds() {
        for (int worlds = 0; worlds <= 64; worlds++) {
            long common = worlds == 64 ? -1L : (1L << worlds) - 1;
            NoughtSums x = Checks.made(Checks.sum(Checks.sumOfWorlds(~common)) + ";");
            C.due("common", x.common(), common);
            C.due(worlds + " stand", Long.bitCount(x.standing()), worlds);
        }
    }

    private static void goesWithGiven() {
        NoughtSums x = Checks.made("a;");
        C.due("a", x.standing(), 0x5555555555555555L);
        C.due("a claim", Checks.proof(x, "claim ab;claim 1;"), 1);
        C.due("a proof changes nothing", x.standing(), 0x5555555555555555L);
        C.due("a fault", Checks.given(x, "b;?"), -12);
        C.due("nor does a fault", x.standing(), 0x5555555555555555L);
        Checks.given(x, "b;");
        C.due("b", x.standing(), 0x3333333333333333L);
        Checks.given(x, "");
        C.due("none given", x.standing(), -1L);
    }
}
