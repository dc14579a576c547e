/**
 * Promise 21, weight: WEIGHT of a LINE by a KIND 0 .. 3. BAD: -100. SUM how many PRODUCTS; ADDED that and WORLDS in
 * which its VALUE is 1; RAISED SUM and twice its DEGREE; PROVED twice ADDED less how many PRODUCTS its LEFT has, which
 * are none, as each LINE FOLLOWS.
 */
public final class Promise21WeightTest {
    private static final Checks C = new Checks("Promise21WeightTest");
    private static final int BAD_WEIGHT = -100;

    public static void main(String[] args) {
        ordinaryWeights();
        sumWithoutProducts();
        sumOfOne();
        fromFewToAllProducts();
        degreesFromNoughtToSix();
        firstAndLastLine();
        refusesOtherKinds();
        refusesOtherLines();
        C.finish();
    }

    private static void dueWeights(NoughtSums x, int i, int... want) {
        for (int kind = 0; kind < 4; kind++) {
            C.due("kind " + kind + " of line " + i + " (" + x.line(i) + ")", x.weight(kind, i), want[kind]);
        }
    }

    private static void ordinaryWeights() {
        NoughtSums x = Checks.made("ab+c;", "by 0 a;");
        dueWeights(x, 0, 2, 2 + 32, 2 + 4, 68);
        dueWeights(x, 1, 2, 2 + 16, 2 + 4, 36);
    }

    private static void sumWithoutProducts() {
        NoughtSums x = Checks.made("0;a;", "add 1 1;");
        dueWeights(x, 0, 0, 0, 0, 0);
        dueWeights(x, 2, 0, 0, 0, 0);
    }

    private static void sumOfOne() {
        dueWeights(Checks.made("1;"), 0, 1, 65, 1, 130);
    }

    private static void fromFewToAllProducts() {
        NoughtSums x = Checks.made("abcdef;" + Checks.sum(-1L) + ";");
        dueWeights(x, 0, 1, 2, 13, 4);
        dueWeights(x, 1, 64, 65, 76, 130);
        NoughtSums y = Checks.made("1;", "claim " + Checks.sum(Checks.sumOfWorlds(-2L)) + ";");
        dueWeights(y, 1, 63, 126, 75, 252);
    }

    private static void degreesFromNoughtToSix() {
        for (int degree = 0; degree <= 6; degree++) {
            String product = degree == 0 ? "1" : "abcdef".substring(0, degree);
            int worlds = 1 << (6 - degree);
            dueWeights(Checks.made(product + ";"), 0, 1, 1 + worlds, 1 + 2 * degree, 2 + 2 * worlds);
        }
    }

    private static void firstAndLastLine() {
        NoughtSums x = Checks.full();
        dueWeights(x, 0, 1, 33, 3, 66);
        C.due("sum of the last", x.weight(0, 31), 5);
        C.due("raised of the last", x.weight(2, 31), 5 + 8);
        for (int kind = 0; kind < 4; kind++) {
            C.due("behind it", x.weight(kind, 32), BAD_WEIGHT);
        }
    }

    private static void refusesOtherKinds() {
        NoughtSums x = Checks.made("ab+c;0;");
        String ahead = Checks.told(x);
        for (int kind : Checks.outside(0, 3)) {
            C.due("kind " + kind, x.weight(kind, 0), BAD_WEIGHT);
            C.due("kind " + kind + " of nought", x.weight(kind, 1), BAD_WEIGHT);
            C.due("kind " + kind + " of no line", x.weight(kind, 2), BAD_WEIGHT);
        }
        C.same("refused calls", ahead, Checks.told(x));
        dueWeights(x, 0, 2, 34, 6, 68);
    }

    private static void refusesOtherLines() {
        NoughtSums x = Checks.made("a;b;", "claim ab;claim 1;claim a;");
        String ahead = Checks.told(x);
        for (int i : Checks.outside(0, 2)) {
            for (int kind = 0; kind < 4; kind++) {
                C.due("kind " + kind + " of line " + i, x.weight(kind, i), BAD_WEIGHT);
            }
        }
        C.same("refused calls", ahead, Checks.told(x));
        dueWeights(x, 2, 1, 17, 5, 34);
        C.due("of a new object", new NoughtSums().weight(0, 0), BAD_WEIGHT);
    }
}
