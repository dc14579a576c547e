/** Promise 1: a new object has no SUMS. */
public final class Promise01NewObjectTest {
    private static final Checks C = new Checks("Promise01NewObjectTest");

    public static void main(String[] args) {
        countsOfNoSums();
        noLineIsThere();
        worldsOfNoSums();
        firstCallMayBeAnyCall();
        proofWithoutGiven();
        objectsHaveNothingInCommon();
        C.finish();
    }

    private static void countsOfNoSums() {
        int[] counts = {0, 0, 0, 0, 0, 64, 0};
        for (int what = 0; what < counts.length; what++) {
            C.due("count(" + what + ")", new NoughtSums().count(what), counts[what]);
        }
        C.due("wrong", new NoughtSums().wrong(), NoughtSums.NONE);
        C.due("end", new NoughtSums().end(), NoughtSums.NONE);
        C.due("trace", new NoughtSums().trace(), 0);
    }

    private static void noLineIsThere() {
        NoughtSums x = new NoughtSums();
        String ahead = Checks.told(x);
        for (int i : new int[] {0, 1, 7, 8, 31, 32, -1}) {
            C.due("line " + i, x.line(i), 0);
            C.due("value " + i, x.value(i, 0), NoughtSums.BAD);
            C.due("degree " + i, x.lead(i, 0), NoughtSums.BAD);
            C.due("lead " + i, x.lead(i, 1), NoughtSums.BAD);
            C.due("times " + i, x.both(i, i, 0), 0);
            C.due("plus " + i, x.both(i, i, 1), 0);
            C.due("with " + i, x.with(i, 0, 0), 0);
            C.due("follows " + i, x.follows(i), NoughtSums.BAD);
            C.due("left " + i, x.left(i), 0);
            C.due("at once " + i, x.deep(i, 0), NoughtSums.BAD);
            C.due("grown " + i, x.deep(i, 1), NoughtSums.BAD);
            C.due("needed " + i, x.needed(i, 0), NoughtSums.BAD);
            C.due("the set " + i, x.needed(i, 1), NoughtSums.BAD);
            C.due("weight " + i, x.weight(0, i), -100);
        }
        C.same("refused calls on a new object", ahead, Checks.told(x));
    }

    private static void worldsOfNoSums() {
        NoughtSums x = new NoughtSums();
        C.due("common: all worlds", x.common(), -1L);
        C.due("standing: all products", x.standing(), -1L);
        C.due("base", x.base(0), 0);
        C.due("rest of nothing", x.rest(0), 0);
        C.due("rest of a sum", x.rest(77), 77);
        C.due("rest of all products", x.rest(-1L), -1L);
    }

    private static void firstCallMayBeAnyCall() {
        C.due("type", new NoughtSums().type(97, 1), 1);
        C.due("clear", new NoughtSums().clear(), 0);
        C.due("given", new NoughtSums().given(), 0);
        C.due("proof", new NoughtSums().proof(), 0);
        C.due("common", new NoughtSums().common(), -1L);
        C.due("standing", new NoughtSums().standing(), -1L);
        C.due("rest", new NoughtSums().rest(5), 5);
        C.due("base", new NoughtSums().base(0), 0);
        C.due("deep", new NoughtSums().deep(0, 1), NoughtSums.BAD);
    }

    /** Without GIVEN just the SUM without PRODUCTS FOLLOWS, and it comes always. */
    private static void proofWithoutGiven() {
        NoughtSums x = new NoughtSums();
        C.due("proof", Checks.proof(x, "claim a + a; by 0 b; add 0 1;times 2 2;claim 1;"), 4);
        C.due("wrong", x.wrong(), 4);
        C.due("given", x.count(0), 0);
        for (int i = 0; i < 4; i++) {
            C.due("line " + i, x.line(i), 0);
            C.due("at once " + i, x.deep(i, 0), 0);
            C.due("grown " + i, x.deep(i, 1), 0);
            C.due("needed " + i, x.needed(i, 0), 0);
            C.due("the set " + i, x.needed(i, 1), 0);
        }
    }

    private static void objectsHaveNothingInCommon() {
        NoughtSums one = Checks.full();
        Checks.typed(one, "abc");
        one.weight(3, 0);
        NoughtSums other = new NoughtSums();
        C.due("bytes of an object made behind a full one", other.count(6), 0);
        C.due("lines of it", other.count(0) + other.count(1) + other.count(2), 0);
        C.due("trace of it", other.trace(), 0);
        String ahead = Checks.told(one);
        Checks.given(other, "1;");
        Checks.proof(other, "claim f;");
        other.weight(3, 1);
        C.same("one object by another one's calls", ahead, Checks.told(one));
    }
}
