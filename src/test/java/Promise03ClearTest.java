/** Promise 3, clear: THE TEXT is empty: how many bytes it had. */
public final class Promise03ClearTest {
    private static final Checks C = new Checks("Promise03ClearTest");

    public static void main(String[] args) {
        answersHowManyBytesTheTextHad();
        leavesAnEmptyText();
        changesNothingElse();
        makesRoomForAFullText();
        C.finish();
    }

    private static void answersHowManyBytesTheTextHad() {
        for (int bytes : new int[] {0, 1, 7, 8, 9, 399, 400}) {
            NoughtSums x = Checks.typed(new NoughtSums(), "a".repeat(bytes));
            C.due("clear of " + bytes, x.clear(), bytes);
            C.due("bytes then", x.count(6), 0);
            C.due("clear again", x.clear(), 0);
        }
        NoughtSums x = Checks.typed(new NoughtSums(), "a".repeat(400));
        x.type(0, 1);
        C.due("clear behind a type that was FULL", x.clear(), 400);
    }

    private static void leavesAnEmptyText() {
        NoughtSums x = Checks.typed(new NoughtSums(), "a;b;");
        x.clear();
        C.due("given of the empty text", x.given(), 0);
        Checks.typed(x, "claim 0;");
        x.clear();
        C.due("proof of the empty text", x.proof(), 0);
        C.due("steps", x.count(2), 0);
        Checks.typed(x, "?? a;b;c;");
        x.clear();
        Checks.typed(x, "f;");
        C.due("no byte of the old text is read", x.given(), 1);
        C.due("the sum", x.line(0), 1L << 32);
    }

    private static void changesNothingElse() {
        NoughtSums x = Checks.full();
        x.weight(3, 8);
        String ahead = Checks.told(x);
        Checks.typed(x, "abc");
        C.due("clear", x.clear(), 3);
        C.same("clear", ahead, Checks.told(x));
        NoughtSums y = Checks.made("a;", "claim b;");
        C.due("clear of the empty text", y.clear(), 0);
        C.due("wrong stays", y.wrong(), 0);
        C.due("steps stay", y.count(2), 1);
    }

    private static void makesRoomForAFullText() {
        NoughtSums x = Checks.typed(new NoughtSums(), "?".repeat(400));
        x.clear();
        Checks.typed(x, "a" + "+a".repeat(199) + ";");
        C.due("400 bytes again", x.count(6), 400);
        C.due("full again", x.type(0, 1), NoughtSums.FULL);
        C.due("which are read", x.given(), 1);
    }
}
