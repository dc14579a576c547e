import java.lang.management.ManagementFactory;

/** No call makes an object: the room of a run is taken by the constructor alone. */
public final class RoomTest {
    private static final int ROUNDS = 2000;
    private static final long[] GIVEN = packed("ab + c;bc+a;a+1;abcdef+f;");
    private static final long[] PROOF = packed("add 0 1;by 4 f;times 4 5;claim 0;claim a+1;");
    private static final long[] FAULTY = packed("claim 0;by 0 ab;");

    public static void main(String[] args) {
        Checks c = new Checks("RoomTest");
        com.sun.management.ThreadMXBean beans =
            (com.sun.management.ThreadMXBean) ManagementFactory.getThreadMXBean();
        long self = Thread.currentThread().getId();
        // Each round has an object of its own, made ahead: one is used for 512 calls at most.
        NoughtSums[] all = new NoughtSums[ROUNDS];
        for (int k = 0; k < ROUNDS; k++) {
            all[k] = new NoughtSums();
        }
        allCalls(new NoughtSums());
        beans.getThreadAllocatedBytes(self);
        long before = beans.getThreadAllocatedBytes(self);
        for (int k = 0; k < ROUNDS; k++) {
            allCalls(all[k]);
        }
        long made = beans.getThreadAllocatedBytes(self) - before;
        // The machine itself may take a little (class loading, the bean's own); one object a call would be megabytes.
        c.due("bytes made by 2000 rounds of all calls, in units of 200 kB", made / 200_000, 0);
        c.finish();
    }

    /** Texts are packed ahead of the measured calls: what is counted is the class's own. */
    private static long[] packed(String text) {
        long[] parts = new long[text.length()];
        for (int k = 0; k < parts.length; k++) {
            parts[k] = text.charAt(k);
        }
        return parts;
    }

    private static void typed(NoughtSums x, long[] parts) {
        x.clear();
        for (long part : parts) {
            x.type(part, 1);
        }
    }

    private static void allCalls(NoughtSums x) {
        typed(x, GIVEN);
        x.given();
        typed(x, PROOF);
        x.proof();
        typed(x, FAULTY);
        x.proof();
        x.given();
        x.wrong();
        x.end();
        for (int i = 0; i < 9; i++) {
            x.line(i);
            x.value(i, 5);
            x.lead(i, 0);
            x.both(i, 0, 0);
            x.with(i, 1, 1);
            x.follows(i);
            x.left(i);
            x.deep(i, 0);
            x.deep(i, 1);
            x.needed(i, 1);
            x.weight(3, i);
            x.weight(2, i);
            x.base(i);
        }
        x.common();
        x.standing();
        x.rest(-1L);
        for (int what = 0; what < 7; what++) {
            x.count(what);
        }
        x.trace();
    }
}
