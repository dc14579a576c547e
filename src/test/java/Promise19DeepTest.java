/**
 * Promise 19, deep: AT ONCE (what = 0), GROWN (1) of a LINE; NONE. BAD. AT ONCE is a least d of 0 .. 12, GROWN one of
 * 0 .. 6. Each LINE FOLLOWS and so is a sum of multiples of GIVEN: AT ONCE is never NONE. Nor is it ever 12: a GIVEN
 * SUM of six LETTERS is 0 in some WORLD, and there a multiplier with the PRODUCT of six may be changed to be without.
 */
public final class Promise19DeepTest {
    private static final Checks C = new Checks("Promise19DeepTest");

    public static void main(String[] args) {
        noughtIsDeepAtNought();
        oneIsDeepAtNought();
        givenAreDeepAtTheirDegree();
        atOnceCountsTheLettersOfTheMultiplier();
        atOnceUpToEleven();
        atOnceTakesTheLeast();
        givenWithoutProductsGivesNothing();
        grownMultipliesBelowItsDegreeAlone();
        grownIsNoneAboveSix();
        grownGoesOnWithWhatCame();
        grownTakesGivenOfItsDegreeAtMost();
        goesWithGiven();
        nothingStaysOfGivenAhead();
        refusesOtherNumbers();
        C.finish();
    }

    private static void dueDeep(String given, String claim, int atOnce, int grown) {
        NoughtSums x = Checks.made(given, "claim " + claim + ";");
        int i = x.count(0);
        C.due("at once " + claim + " behind " + given, x.deep(i, 0), atOnce);
        C.due("grown " + claim + " behind " + given, x.deep(i, 1), grown);
    }

    private static void noughtIsDeepAtNought() {
        for (String given : new String[] {"", "0;", "1;", "a;", "abcdef;", "abcdef+1;0;"}) {
            dueDeep(given, "0", 0, 0);
            dueDeep(given, "f+f", 0, 0);
        }
        NoughtSums x = Checks.made("0;abc;", "add 1 1;times 0 1;");
        for (int i : new int[] {0, 2, 3}) {
            C.due("at once, line " + i, x.deep(i, 0), 0);
            C.due("grown, line " + i, x.deep(i, 1), 0);
        }
    }

    private static void oneIsDeepAtNought() {
        dueDeep("1;", "1", 0, 0);
        dueDeep("a;1;", "1", 0, 0);
        for (int letters = 1; letters <= 6; letters++) {
            dueDeep("1;", "abcdef".substring(0, letters), letters, letters);
        }
    }

    private static void givenAreDeepAtTheirDegree() {
        NoughtSums x = Checks.made("abcdef;abcde+c;bcde;cde+1;ef+a;f;");
        for (int i = 0; i < 6; i++) {
            C.due("at once, given " + i, x.deep(i, 0), Math.max(1, 6 - i));
            C.due("grown, given " + i, x.deep(i, 1), Math.max(1, 6 - i));
        }
    }

    private static void atOnceCountsTheLettersOfTheMultiplier() {
        String[] claims = {"a", "ab", "abc", "abcd", "abcde", "abcdef"};
        for (int k = 0; k < claims.length; k++) {
            dueDeep("a;", claims[k], k + 1, k + 1);
        }
        dueDeep("a+b;", "ac+bc", 2, 2);
        dueDeep("a+b;", "a+ab", 2, 2);
        dueDeep("ab+c;", "c+ac", 3, 3);
    }

    private static void atOnceUpToEleven() {
        String[] letters = {"1", "a", "ab", "abc", "abcd", "abcde"};
        for (int k = 0; k < letters.length; k++) {
            dueDeep("abcdef+1;", "abcdef+" + letters[k], 6 + k, k == 0 ? 6 : NoughtSums.NONE);
        }
        dueDeep("abcdef+1;", "abcde+1", 11, NoughtSums.NONE);
        dueDeep("abcdef+a+b;", "abcdef", 7, NoughtSums.NONE);
        dueDeep("abcdef+1;0;", "f+1", 7, NoughtSums.NONE);
    }

    private static void atOnceTakesTheLeast() {
        dueDeep("abc;ab;", "abc", 3, 3);
        dueDeep("abcdef+1;a;", "1", 6, 6);
        dueDeep("abcdef+1;a;", "f+1", 7, 6);
        dueDeep("a+1;ab+b+c;", "c", 2, 2);
        dueDeep("a;a+1;", "1", 1, 1);
        dueDeep("a;a+1;", "f", 2, 1);
        dueDeep("a+b;b+1;ab;", "1", 2, 2);
    }

    private static void givenWithoutProductsGivesNothing() {
        dueDeep("0;a;", "ab", 2, 2);
        dueDeep("0;0;0;0;0;0;0;abcdef;", "abcdef", 6, 6);
        C.due("nought itself", Checks.made("0;").deep(0, 0), 0);
    }

    /** One of DEGREE d is not multiplied at d, one of DEGREE d - 1 is. */
    private static void grownMultipliesBelowItsDegreeAlone() {
        dueDeep("ab;", "ab", 2, 2);
        dueDeep("ab;", "abc", 3, 3);
        dueDeep("abcd;", "abcde", 5, 5);
        dueDeep("abcde;", "abcdef", 6, 6);
        dueDeep("ab+a;", "0", 0, 0);
        // By b the lead stays, and still it is multiplied one above its degree alone.
        dueDeep("ab+c;", "ab+bc", 3, 3);
        dueDeep("ab+c;", "c+bc", 3, 3);
    }

    private static void grownIsNoneAboveSix() {
        dueDeep("abcdef+1;", "abcdef+1", 6, 6);
        dueDeep("abcdef+1;", "a+1", 7, NoughtSums.NONE);
        dueDeep("abcdef;", "abcdef", 6, 6);
        dueDeep("abcde+1;", "abcdef+f", 6, 6);
        // By e it has no degree above its own, but comes at the sixth all the same, and with f then.
        dueDeep("abcde+1;", "e+1", 6, 6);
        dueDeep("abcde+1;", "ef+f", 7, 6);
        // What two of degree 6 have in common goes away: a remains, and it is multiplied.
        dueDeep("abcdef;abcdef+a;", "a", 6, 6);
        dueDeep("abcdef;abcdef+a;", "abcde", 10, 6);
    }

    private static void grownGoesOnWithWhatCame() {
        // At depth 2 the leads ab go away, c remains and is multiplied on: at once this takes a letter more.
        dueDeep("a+1;ab+b+c;", "c", 2, 2);
        dueDeep("a+1;ab+b+c;", "cd", 3, 2);
        dueDeep("a+1;ab+b+c;", "cde", 4, 3);
        dueDeep("a;a+1;", "bcdef", 6, 5);
        dueDeep("a;a+1;", "abcdef", 6, 6);
        dueDeep("ab;ab+1;", "1", 2, 2);
        dueDeep("ab;ab+1;", "f", 3, 2);
        dueDeep("ab;ab+1;", "ef", 4, 2);
    }

    /** What a GIVEN of a higher DEGREE would shorten stays out below it. */
    private static void grownTakesGivenOfItsDegreeAtMost() {
        dueDeep("abc;abc+d;", "d", 3, 3);
        dueDeep("abc;abc+d;a;", "ab", 2, 2);
        dueDeep("abcdef;abcdef+1;a;", "a", 1, 1);
        dueDeep("abcdef;abcdef+1;a;", "b", 7, 6);
    }

    private static void goesWithGiven() {
        NoughtSums x = Checks.made("ab;", "claim abc;");
        C.due("at once abc by ab", x.deep(1, 0), 3);
        C.due("grown abc by ab", x.deep(1, 1), 3);
        C.due("a fault", Checks.given(x, "a;b;c;?"), -16);
        C.due("stays", x.deep(1, 0), 3);
        Checks.proof(x, "claim abcd;");
        C.due("another claim at once", x.deep(1, 0), 4);
        C.due("another claim grown", x.deep(1, 1), 4);
        Checks.given(x, "a;b;");
        C.due("at once a", x.deep(0, 0), 1);
        C.due("grown b", x.deep(1, 1), 1);
        Checks.given(x, "abc;ab;");
        C.due("at once abc", x.deep(0, 0), 3);
        C.due("grown ab", x.deep(1, 1), 2);
    }

    /** All that came by 1 is gone with it. */
    private static void nothingStaysOfGivenAhead() {
        NoughtSums x = Checks.made("1;");
        C.due("at once 1", x.deep(0, 0), 0);
        C.due("grown 1", x.deep(0, 1), 0);
        Checks.given(x, "abcdef+1;");
        Checks.proof(x, "claim a+1;");
        C.due("at once a+1", x.deep(1, 0), 7);
        C.due("grown a+1", x.deep(1, 1), NoughtSums.NONE);
        Checks.given(x, "");
        Checks.proof(x, "claim 0;");
        C.due("grown 0", x.deep(0, 1), 0);
        C.due("what stands", x.standing(), -1L);
    }

    private static void refusesOtherNumbers() {
        NoughtSums x = Checks.made("a;0;", "claim ab;claim 1;claim a;");
        String ahead = Checks.told(x);
        for (int i : Checks.outside(0, 2)) {
            C.due("at once of line " + i, x.deep(i, 0), NoughtSums.BAD);
            C.due("grown of line " + i, x.deep(i, 1), NoughtSums.BAD);
        }
        for (int what : Checks.outside(0, 1)) {
            C.due("what " + what, x.deep(0, what), NoughtSums.BAD);
            C.due("what " + what + " of nought", x.deep(1, what), NoughtSums.BAD);
            C.due("what " + what + " of no line", x.deep(3, what), NoughtSums.BAD);
        }
        C.same("refused calls", ahead, Checks.told(x));
        NoughtSums full = Checks.full();
        C.due("the last of 32", full.deep(31, 0), 4);
        C.due("behind it", full.deep(32, 0), NoughtSums.BAD);
        C.due("behind it", full.deep(32, 1), NoughtSums.BAD);
    }
}
