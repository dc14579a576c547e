/** "An object is used for at most 512 calls after it has been made": the last of them answers as the first. */
public final class WhatItIsTest {
    private static final Checks C = new Checks("WhatItIsTest");

    public static void main(String[] args) {
        lastCallsAreAnswered();
        allCallsMayBeOfOneKind();
        laterCallsEnd();
        C.finish();
    }

    private static NoughtSums usedFor(int calls) {
        NoughtSums x = new NoughtSums();
        x.type(0x61623B633BL, 5);
        x.given();
        for (int k = 2; k < calls; k++) {
            x.deep(k % 2, k / 2 % 2);
        }
        return x;
    }

    private static void lastCallsAreAnswered() {
        for (int calls : new int[] {2, 509, 510, 511}) {
            C.due("line", usedFor(calls).line(0), 8);
            C.due("at once", usedFor(calls).deep(0, 0), 2);
            C.due("common", usedFor(calls).common(), 0x0707070707070707L);
            C.due("type", usedFor(calls).type(97, 1), 1);
            C.due("given", usedFor(calls).given(), 0);
            C.due("proof", usedFor(calls).proof(), 0);
            C.due("weight", usedFor(calls).weight(0, 1), 1);
            C.due("trace", usedFor(calls).trace(), 0);
            C.due("BAD", usedFor(calls).value(2, 0), NoughtSums.BAD);
        }
    }

    private static void allCallsMayBeOfOneKind() {
        NoughtSums texts = new NoughtSums();
        for (int k = 0; k < 256; k++) {
            C.due("type", texts.type(0x613BL, 2), 2);
            C.due("given", texts.given(), 1);
        }
        NoughtSums bytes = new NoughtSums();
        for (int k = 1; k <= 512; k++) {
            C.due("type " + k, bytes.type(32, 1), k <= 400 ? k : NoughtSums.FULL);
        }
    }

    /** What they answer is free; that they end without a throw is not. */
    private static void laterCallsEnd() {
        NoughtSums x = usedFor(512);
        for (int k = 0; k < 2000; k++) {
            x.weight(3, 0);
            x.type(k, 8);
            x.given();
            x.proof();
            x.base(k);
            x.needed(0, 1);
        }
        C.due("the calls ended", 1, 1);
    }
}
