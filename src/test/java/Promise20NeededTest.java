/**
 * Promise 20, needed: the fewest GIVEN by which a LINE FOLLOWS: how many (what = 0), of several the least set (1);
 * NONE. BAD. Each LINE FOLLOWS by all GIVEN, so that NONE is never the answer.
 */
public final class Promise20NeededTest {
    private static final Checks C = new Checks("Promise20NeededTest");

    public static void main(String[] args) {
        ordinarySets();
        noneAreNeededForNought();
        eachGivenAlone();
        fewestAheadOfTheLeastSet();
        leastSetOfSeveral();
        upToAllEight();
        proofsLinesAreNotAmongThem();
        refusesOtherNumbers();
        C.finish();
    }

    private static void dueNeeded(String given, String claim, int number, int set) {
        NoughtSums x = Checks.made(given, "claim " + claim + ";");
        int i = x.count(0);
        C.due("needed for " + claim + " behind " + given, x.needed(i, 0), number);
        C.due("the set for " + claim + " behind " + given, x.needed(i, 1), set);
    }

    private static void ordinarySets() {
        NoughtSums x = Checks.made("a;b;a+b;ab;0;", "claim ab;claim a+b;claim 0;claim b;add 0 1;by 1 f;");
        int[] numbers = {1, 1, 1, 1, 0, 1, 1, 0, 1, 1, 1};
        int[] sets = {1, 2, 4, 1, 0, 1, 4, 0, 2, 4, 2};
        for (int i = 0; i < numbers.length; i++) {
            C.due("needed " + i, x.needed(i, 0), numbers[i]);
            C.due("the set " + i, x.needed(i, 1), sets[i]);
        }
        dueNeeded("a;b;c;a+b+c+1;c+1;", "1", 2, 4 + 16);
    }

    private static void noneAreNeededForNought() {
        for (String given : new String[] {"", "0;", "a;", "1;", "1;0;"}) {
            dueNeeded(given, "0", 0, 0);
            dueNeeded(given, "a+a", 0, 0);
        }
        C.due("a given one", Checks.made("0;").needed(0, 0), 0);
    }

    private static void eachGivenAlone() {
        for (int k = 0; k < 8; k++) {
            dueNeeded("0;".repeat(k) + "a;" + "0;".repeat(7 - k), "ab", 1, 1 << k);
            dueNeeded("a;".repeat(8 - k) + "0;".repeat(k), "a", 1, 1);
        }
    }

    private static void fewestAheadOfTheLeastSet() {
        dueNeeded("a;b;a+b;", "a+b", 1, 4);
        dueNeeded("a;b;c;d;e;f;0;a+b+c+d+e+f;", "a+b+c+d+e+f", 1, 128);
        dueNeeded("a;b;c;a+b;0;", "a+b+c", 2, 4 + 8);
        dueNeeded("a;a+1;1;", "f", 1, 4);
    }

    private static void leastSetOfSeveral() {
        dueNeeded("a;b;b+1;a+1;", "1", 2, 6);
        dueNeeded("a;b;a+1;b+1;", "1", 2, 5);
        dueNeeded("a;a;a;", "a", 1, 1);
        dueNeeded("b;a;a;", "a", 1, 2);
        dueNeeded("a;b;a;b;", "a+b", 2, 3);
        dueNeeded("0;1;1;", "abcdef", 1, 2);
    }

    /** Eight SUMS, each 1 just where a, b, c are one of their eight ways: all but one leave that way's WORLDS. */
    private static void upToAllEight() {
        StringBuilder given = new StringBuilder();
        for (int way = 0; way < 8; way++) {
            given.append(Checks.sum(Checks.sumOfWorlds(0x0101010101010101L << way))).append(';');
        }
        dueNeeded(given.toString(), "1", 8, 255);
        dueNeeded(given.toString(), "f", 8, 255);
        dueNeeded(given.toString(), Checks.sum(Checks.sumOfWorlds(~0x8080808080808080L)), 7, 127);
        dueNeeded(given.toString(), Checks.sum(Checks.sumOfWorlds(~0x0101010101010101L)), 7, 254);
        dueNeeded(given.toString(), "a", 4, 0b10101010);
        dueNeeded(given.toString(), "abc", 1, 128);
        dueNeeded(given.toString(), "abcdef", 1, 128);
        dueNeeded(given.toString(), "0", 0, 0);
        dueNeeded("a;b;c;d;e;f+ab;ab+cd;a+b+c+d+e+f+1;", "1", 7, 0b10111111);
    }

    private static void proofsLinesAreNotAmongThem() {
        NoughtSums x = Checks.made("a;b;", "claim a+b;add 0 1;");
        C.due("needed", x.needed(3, 0), 2);
        C.due("the set", x.needed(3, 1), 3);
        Checks.given(x, "a;b;a+b;");
        C.due("given now", x.needed(2, 0), 1);
    }

    private static void refusesOtherNumbers() {
        NoughtSums x = Checks.made("a;0;", "claim ab;claim 1;claim a;");
        String ahead = Checks.told(x);
        for (int i : Checks.outside(0, 2)) {
            C.due("of line " + i, x.needed(i, 0), NoughtSums.BAD);
            C.due("the set of line " + i, x.needed(i, 1), NoughtSums.BAD);
        }
        for (int what : Checks.outside(0, 1)) {
            C.due("what " + what, x.needed(0, what), NoughtSums.BAD);
            C.due("what " + what + " of nought", x.needed(1, what), NoughtSums.BAD);
            C.due("what " + what + " of no line", x.needed(3, what), NoughtSums.BAD);
        }
        C.same("refused calls", ahead, Checks.told(x));
        NoughtSums full = Checks.full();
        C.due("the last of 32", full.needed(31, 1), 1 + 2 + 4);
        C.due("behind it", full.needed(32, 1), NoughtSums.BAD);
    }
}
