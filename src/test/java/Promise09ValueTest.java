/** Promise 9, value: VALUE of a LINE in a WORLD (0 .. 63): how many PRODUCTS have just LETTERS that are 1, modulo 2. */
public final class Promise09ValueTest {
    private static final Checks C = new Checks("Promise09ValueTest");

    public static void main(String[] args) {
        ordinaryValues();
        letterIIsBitI();
        productOfNoneIsOneEverywhere();
        isCountedModuloTwo();
        eachProductInEachWorld();
        refusesOtherWorlds();
        refusesOtherLines();
        C.finish();
    }

    private static void ordinaryValues() {
        NoughtSums x = Checks.made("ab+c+1;", "by 0 f;");
        int[] worlds = {0, 3, 4, 7, 63};
        int[] values = {1, 0, 0, 1, 1};
        for (int k = 0; k < worlds.length; k++) {
            C.due("world " + worlds[k], x.value(0, worlds[k]), values[k]);
        }
        C.due("without f", x.value(1, 7), 0);
        C.due("with f", x.value(1, 39), 1);
    }

    private static void letterIIsBitI() {
        NoughtSums x = Checks.made("a;b;c;d;e;f;");
        for (int letter = 0; letter < 6; letter++) {
            for (int bit = 0; bit < 6; bit++) {
                C.due("letter " + letter + " in " + (1 << bit), x.value(letter, 1 << bit), letter == bit ? 1 : 0);
                C.due("in all but it", x.value(letter, 63 - (1 << bit)), letter == bit ? 0 : 1);
            }
            C.due("in the first world", x.value(letter, 0), 0);
            C.due("in the last world", x.value(letter, 63), 1);
        }
    }

    private static void productOfNoneIsOneEverywhere() {
        NoughtSums x = Checks.made("1;0;");
        for (int world = 0; world < 64; world++) {
            C.due("1 in " + world, x.value(0, world), 1);
            C.due("0 in " + world, x.value(1, world), 0);
        }
    }

    private static void isCountedModuloTwo() {
        NoughtSums x = Checks.made("a;a+b;a+b+c;a+b+c+d;a+b+c+d+e;a+b+c+d+e+f;" + Checks.sum(-1L) + ";");
        for (int i = 0; i < 6; i++) {
            C.due("of " + (i + 1) + " letters", x.value(i, 63), (i + 1) % 2);
            C.due("in the first world", x.value(i, 0), 0);
        }
        C.due("of all 64 products", x.value(6, 63), 0);
        C.due("of all where 1 alone is", x.value(6, 0), 1);
        C.due("of all where two are", x.value(6, 32), 0);
    }

    private static void eachProductInEachWorld() {
        for (int product = 0; product < 64; product++) {
            NoughtSums x = Checks.made(Checks.product(product) + ";");
            for (int world = 0; world < 64; world++) {
                int want = (product & world) == product ? 1 : 0;
                C.due("product " + product + " in " + world, x.value(0, world), want);
            }
        }
    }

    private static void refusesOtherWorlds() {
        NoughtSums x = Checks.made("1;abcdef;");
        String ahead = Checks.told(x);
        for (int world : Checks.outside(0, 63)) {
            C.due("world " + world, x.value(0, world), NoughtSums.BAD);
            C.due("world " + world, x.value(1, world), NoughtSums.BAD);
        }
        C.same("refused calls", ahead, Checks.told(x));
        C.due("the first", x.value(0, 0), 1);
        C.due("the last", x.value(1, 63), 1);
        C.due("the last but one", x.value(1, 62), 0);
    }

    private static void refusesOtherLines() {
        NoughtSums x = Checks.made("1;a;", "add 0 1;claim 1;".repeat(2));
        String ahead = Checks.told(x);
        for (int i : Checks.outside(0, x.count(0) + x.count(1) - 1)) {
            C.due("line " + i, x.value(i, 0), NoughtSums.BAD);
            C.due("line and world " + i, x.value(i, 64), NoughtSums.BAD);
        }
        C.same("refused calls", ahead, Checks.told(x));
        NoughtSums full = Checks.full();
        C.due("the last of 32", full.value(31, 1), 1);
        C.due("the last of 32", full.value(31, 3), 0);
        C.due("behind it", full.value(32, 1), NoughtSums.BAD);
    }
}
