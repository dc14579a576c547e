/**
 * Promise 16, left: LEFT of a LINE. 0: BAD, too. Each LINE FOLLOWS, so that its VALUES in COMMON are those of the SUM
 * without PRODUCTS: that is what is left.
 */
public final class Promise16LeftTest {
    private static final Checks C = new Checks("Promise16LeftTest");

    public static void main(String[] args) {
        nothingIsLeftOfALine();
        leftOfASumIsItsRest();
        refusesOtherLines();
        C.finish();
    }

    private static void nothingIsLeftOfALine() {
        NoughtSums x = Checks.made("a+b;0;abcdef+c;", "by 0 c;claim c+a;add 0 2;");
        C.due("lines", x.count(1), 1);
        for (int i = 0; i < 4; i++) {
            C.due("left of " + i, x.left(i), 0);
        }
        NoughtSums full = Checks.full();
        for (int i = 0; i < 32; i++) {
            C.due("left of " + i + " of 32", full.left(i), 0);
        }
        C.due("in no world", Checks.made("1;", "claim abcdef;").left(1), 0);
        C.due("in all worlds", Checks.made("0;", "claim 0;").left(1), 0);
    }

    private static void leftOfASumIsItsRest() {
        NoughtSums x = Checks.made("a+b;bc+1;");
        for (int i = 0; i < 2; i++) {
            C.due("rest of line " + i, x.rest(x.line(i)), x.left(i));
        }
    }

    private static void refusesOtherLines() {
        NoughtSums x = Checks.made("a+b;", "by 0 c;claim c;");
        String ahead = Checks.told(x);
        for (int i : Checks.outside(0, 1)) {
            C.due("line " + i, x.left(i), 0);
        }
        C.due("of a new object", new NoughtSums().left(0), 0);
        C.same("refused calls", ahead, Checks.told(x));
    }
}
