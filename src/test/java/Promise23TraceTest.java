/**
 * Promise 23, trace: THE TRACE, to which SUM's 1, ADDED's 10, RAISED's 100, PROVED's 1000 come as often as weight()
 * asks that body; "up" is what the KIND above does: SUM over ADDED and RAISED, ADDED over PROVED.
 */
public final class Promise23TraceTest {
    private static final Checks C = new Checks("Promise23TraceTest");
    private static final int[] BODIES = {1, 11, 101, 1011};

    public static void main(String[] args) {
        noughtOfANewObject();
        eachKindAsksThoseAbove();
        whateverTheLine();
        refusedWeightsDoNotCome();
        noOtherCallComes();
        staysAcrossTexts();
        growsAsLongAsAnObjectIsUsed();
        C.finish();
    }

    private static void noughtOfANewObject() {
        C.due("of a new object", new NoughtSums().trace(), 0);
        C.due("behind texts", Checks.full().trace(), 0);
    }

    private static void eachKindAsksThoseAbove() {
        NoughtSums all = Checks.made("ab+c;");
        long want = 0;
        for (int kind = 0; kind < 4; kind++) {
            NoughtSums x = Checks.made("ab+c;");
            x.weight(kind, 0);
            C.due("kind " + kind, x.trace(), BODIES[kind]);
            C.due("asked again", x.trace(), BODIES[kind]);
            all.weight(kind, 0);
            want += BODIES[kind];
            C.due("kinds up to " + kind, all.trace(), want);
        }
    }

    /** "Twice up" is twice what one asking answers, and no DEGREE is looked for in vain. */
    private static void whateverTheLine() {
        for (String given : new String[] {"0;", "1;", "abcdef;", Checks.sum(-1L) + ";"}) {
            for (int kind = 0; kind < 4; kind++) {
                NoughtSums x = Checks.made(given);
                x.weight(kind, 0);
                C.due("kind " + kind + " of " + given, x.trace(), BODIES[kind]);
            }
        }
    }

    private static void refusedWeightsDoNotCome() {
        NoughtSums x = Checks.made("ab+c;", "claim 1;");
        x.weight(3, 0);
        for (int kind : Checks.outside(0, 3)) {
            C.due("kind " + kind, x.weight(kind, 0), -100);
        }
        for (int i : Checks.outside(0, 0)) {
            C.due("line " + i, x.weight(3, i), -100);
        }
        C.due("trace", x.trace(), 1011);
        NoughtSums none = new NoughtSums();
        none.weight(0, 0);
        C.due("of a new object", none.trace(), 0);
    }

    private static void noOtherCallComes() {
        NoughtSums x = Checks.made("ab+c;", "claim abd+cd;");
        Checks.told(x);
        x.value(0, 0);
        x.lead(0, 0);
        x.both(0, 1, 0);
        x.with(0, 0, 1);
        x.follows(0);
        x.left(0);
        x.rest(-1L);
        x.deep(1, 0);
        C.due("trace", x.trace(), 0);
    }

    private static void staysAcrossTexts() {
        NoughtSums x = Checks.made("ab+c;");
        x.weight(2, 0);
        Checks.given(x, "a;");
        C.due("behind given", x.trace(), 101);
        Checks.proof(x, "claim a;");
        C.due("behind a proof", x.trace(), 101);
        Checks.given(x, "");
        C.due("behind no given", x.trace(), 101);
        Checks.given(x, "?");
        Checks.proof(x, "?");
        C.due("behind faults", x.trace(), 101);
        x.clear();
        C.due("behind clear", x.trace(), 101);
        C.due("no line", x.weight(0, 0), -100);
        C.due("behind it", x.trace(), 101);
    }

    private static void growsAsLongAsAnObjectIsUsed() {
        NoughtSums x = new NoughtSums();
        x.type(0x613BL, 2);
        x.given();
        for (int k = 0; k < 509; k++) {
            x.weight(3, 0);
        }
        C.due("the 512th call", x.trace(), 509L * 1011);
    }
}
