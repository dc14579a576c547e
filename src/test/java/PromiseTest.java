/** Each promise of the document by hand-made inputs: ordinary ones, the edges that it names, and wrong ones. */
public final class PromiseTest {
    private static final Checks C = new Checks("PromiseTest");
    private static final int[] OUTSIDE = {-1, Integer.MIN_VALUE, Integer.MAX_VALUE, 64, 400};

    public static void main(String[] args) {
        newObject();
        type();
        clear();
        given();
        givenFaults();
        tokens();
        proof();
        proofFaults();
        wrong();
        end();
        line();
        value();
        lead();
        both();
        with();
        common();
        follows();
        standing();
        left();
        rest();
        base();
        atOnce();
        grown();
        needed();
        weight();
        count();
        trace();
        C.finish();
    }

    private static void due(String call, long got, long want) {
        C.due(call, got, want);
    }

    private static NoughtSums made(String given) {
        NoughtSums x = new NoughtSums();
        due("given " + given, Checks.given(x, given) >= 0 ? 1 : 0, 1);
        return x;
    }

    private static NoughtSums made(String given, String proof) {
        NoughtSums x = made(given);
        due("proof " + proof, Checks.proof(x, proof) >= 0 ? 1 : 0, 1);
        return x;
    }

    private static void dueGiven(String text, int want) {
        due("given of '" + text + "'", Checks.given(new NoughtSums(), text), want);
    }

    private static void dueProof(String given, String text, int want) {
        due("proof of '" + text + "'", Checks.proof(made(given), text), want);
    }

    private static void newObject() {
        NoughtSums x = new NoughtSums();
        int[] counts = {0, 0, 0, 0, 0, 64, 0};
        for (int what = 0; what < counts.length; what++) {
            due("new: count(" + what + ")", x.count(what), counts[what]);
        }
        due("new: wrong", x.wrong(), NoughtSums.NONE);
        due("new: end", x.end(), NoughtSums.NONE);
        due("new: common", x.common(), -1L);
        due("new: standing", x.standing(), -1L);
        due("new: line", x.line(0), 0);
        due("new: value", x.value(0, 0), NoughtSums.BAD);
        due("new: deep", x.deep(0, 0), NoughtSums.BAD);
        due("new: trace", x.trace(), 0);
        due("new: proof of an empty text", x.proof(), 0);
        due("new: given of an empty text", x.given(), 0);
        due("new: clear", x.clear(), 0);
        due("new: rest", x.rest(77), 77);
        due("new: base", x.base(0), 0);
        due("new: a proof without given sums", Checks.proof(x, "claim a + a; by 0 b; add 0 1;"), 3);
        due("new: the claimed sum", x.line(0), 0);
        due("new: at once", x.deep(0, 0), 0);
        due("new: grown", x.deep(0, 1), 0);
        due("new: needed", x.needed(0, 0), 0);
        due("new: the set", x.needed(0, 1), 0);
    }

    private static void type() {
        NoughtSums x = new NoughtSums();
        due("type, high bytes aside", x.type(0x6100000000000031L, 1), 1);
        due("type 0", x.type(0, 0), NoughtSums.BAD);
        due("type 9", x.type(0, 9), NoughtSums.BAD);
        due("type -1", x.type(0, -1), NoughtSums.BAD);
        due("type least", x.type(0, Integer.MIN_VALUE), NoughtSums.BAD);
        due("type most", x.type(0, Integer.MAX_VALUE), NoughtSums.BAD);
        due("type the highest first", x.type(0x2B61623BL, 4), 5);
        due("given 1+ab;", x.given(), 1);
        due("the line", x.line(0), 1L | 1L << 3);
        for (int k = 1; k <= 49; k++) {
            due("type " + k, x.type(-1L, 8), 8 * k);
        }
        due("type to 399", x.type(-1L, 7), 399);
        due("type beyond", x.type(0, 2), NoughtSums.FULL);
        due("type bad ahead of full", x.type(0, 9), NoughtSums.BAD);
        due("nothing changed", x.count(6), 399);
        due("type to 400", x.type(0, 1), 400);
        due("type at 400", x.type(0, 1), NoughtSums.FULL);
        due("bytes above 127 begin no token", x.given(), -10);
        due("clear", x.clear(), 400);
        due("type after clear", x.type(0x3B, 1), 1);
    }

    private static void clear() {
        NoughtSums x = made("a;b;", "add 0 1;");
        Checks.typed(x, "abc");
        due("clear", x.clear(), 3);
        due("clear again", x.clear(), 0);
        due("count of bytes", x.count(6), 0);
        due("the lines stay", x.line(2), 6);
        due("given of nothing", x.given(), 0);
    }

    private static void given() {
        NoughtSums x = new NoughtSums();
        due("given", Checks.given(x, "  a +ba+ 1 ;0;1+1; fedcba;"), 4);
        due("the text is empty", x.count(6), 0);
        due("sum 0", x.line(0), 1L << 1 | 1L << 3 | 1L);
        due("sum 1", x.line(1), 0);
        due("sum 2", x.line(2), 0);
        due("sum 3", x.line(3), 1L << 63);
        due("alike go away", Checks.given(x, "ab+ba;a+a+a;"), 2);
        due("alike 0", x.line(0), 0);
        due("alike 1", x.line(1), 2);
        due("proof", Checks.proof(x, "add 0 1;claim b;"), 1);
        due("wrong", x.wrong(), 1);
        Checks.typed(x, "a;;");
        due("a fault", x.given(), -12);
        due("the text stays", x.count(6), 3);
        due("the proof stays", x.count(1), 1);
        due("the steps stay", x.count(2), 2);
        due("wrong stays", x.wrong(), 1);
        due("given anew", Checks.given(x, "c;"), 1);
        due("no proof then", x.count(1), 0);
        due("no steps then", x.count(2), 0);
        due("no wrong then", x.wrong(), NoughtSums.NONE);
        due("no line then", x.line(1), 0);
        due("eight", Checks.given(x, "a;b;c;d;e;f;1;0;"), 8);
        due("just blanks", Checks.given(x, "   "), 0);
        due("none then", x.count(0), 0);
        due("all worlds then", x.common(), -1);
        StringBuilder full = new StringBuilder("a");
        while (full.length() < 399) {
            full.append("+a");
        }
        due("400 bytes", Checks.given(x, full + ";"), 1);
        due("200 terms alike", x.line(0), 0);
    }

    private static void givenFaults() {
        dueGiven(";", -10);
        dueGiven("  ;", -12);
        dueGiven("+a;", -10);
        dueGiven("a", -11);
        dueGiven("a ", -12);
        dueGiven("a+", -12);
        dueGiven("a + ;", -14);
        dueGiven("a b;", -12);
        dueGiven("a;b;c", -15);
        dueGiven("a;b;c+ +d;", -17);
        dueGiven("a;;", -12);
        dueGiven("aa;", -10);
        dueGiven("b+aba;", -12);
        dueGiven("g;", -10);
        dueGiven("abg;", -10);
        dueGiven("add;", -10);
        dueGiven("claim a;", -10);
        dueGiven("a+by;", -12);
        dueGiven("2;", -10);
        dueGiven("a+10;", -12);
        dueGiven("00;", -10);
        dueGiven("01;", -10);
        dueGiven("1a;", -11);
        dueGiven("a1;", -11);
        dueGiven("1 0;", -12);
        dueGiven("A;", -10);
        dueGiven("a;\n", -12);
        dueGiven("a\t;", -11);
        dueGiven("a;b;c;d;e;f;1;0;a;", -26);
        dueGiven("a;b;c;d;e;f;1;0; ?", -27);
        dueGiven("a;b;c;d;e;f;1;0;  ", 8);
        dueGiven("a;b;c;d;e;f;1;;", -24);
        dueGiven("a;" + (char) 0, -12);
        dueGiven("a;" + (char) 255, -12);
    }

    private static void tokens() {
        dueProof("a;", "by0a;", 1);
        dueProof("a;", "by 0a;", 1);
        dueProof("a;", "add 0 0;claim a+ab;", 2);
        dueProof("a;", "add 00;", -14);
        dueProof("a;", "add 0;", -15);
        dueProof("a;", "addd 0 0;", -10);
        dueProof("a;", "ad 0 0;", -10);
        dueProof("a;", "timesa 0 0;", -10);
        dueProof("a;", "claimab;", -10);
        dueProof("a;", "add 0 000;", -16);
        dueProof("a;", "add 100 0;", -14);
        dueProof("a;", "add 0 4294967296;", -16);
        dueProof("a;", "add 0 18446744073709551616;", -16);
        dueProof("a;", "add 0 99;", -16);
        dueProof("a;", "add -1 0;", -14);
    }

    private static void proof() {
        NoughtSums x = made("a+b;bc;0;");
        due("proof", Checks.proof(x, "add 0 1; by 3 c ;times 0 1;claim ac;add 3 6 ;"), 5);
        due("the text is empty", x.count(6), 0);
        due("add", x.line(3), 1L << 1 | 1L << 2 | 1L << 6);
        due("by", x.line(4), 1L << 5);
        due("times", x.line(5), 1L << 7 | 1L << 6);
        due("claim", x.line(6), 1L << 5);
        due("add of a proof's lines", x.line(7), 1L << 1 | 1L << 2 | 1L << 6 | 1L << 5);
        due("given stay", x.count(0), 3);
        due("a new proof", Checks.proof(x, "times 0 0;"), 1);
        due("the lines behind go", x.line(4), 0);
        due("a square is itself", x.line(3), 6);
        due("by a letter that it has", Checks.proof(x, "by 1 b;by 0 a;"), 2);
        due("bc by b", x.line(3), 1L << 6);
        due("a+b by a", x.line(4), 1L << 1 | 1L << 3);
        Checks.typed(x, "add 0 5;");
        due("a line told later", x.proof(), -16);
        due("the text stays", x.count(6), 8);
        due("the proof stays", x.count(1), 2);
        due("the empty proof", Checks.proof(x, " "), 0);
        due("no lines", x.count(1), 0);
        StringBuilder most = new StringBuilder();
        for (int k = 0; k < 24; k++) {
            most.append("by ").append(k + 2).append(" a;");
        }
        due("24 steps", Checks.proof(x, most.toString()), 24);
        due("line 26", x.line(26), 0);
        due("the 25th", Checks.proof(x, most + "  add 0 0;"), -10 - most.length() - 2);
        due("the 25th, no token", Checks.proof(x, most + " ?"), -10 - most.length() - 1);
        due("24 and blanks", Checks.proof(x, most + "  "), 24);
    }

    private static void proofFaults() {
        dueProof("a;", ";", -10);
        dueProof("a;", "a;", -10);
        dueProof("a;", "0;", -10);
        dueProof("a;", "add", -13);
        dueProof("a;", "add ;", -14);
        dueProof("a;", "add 0 1;", -16);
        dueProof("a;", "add 1 0;", -14);
        dueProof("a;", "add 0 0;add 1 2;", -24);
        dueProof("a;", "add 0 a;", -16);
        dueProof("a;", "add 0 0", -17);
        dueProof("a;", "add 0 0 0;", -18);
        dueProof("a;", "add 0 + 0;", -16);
        dueProof("a;", "times 0 0;times 0 2;", -28);
        dueProof("a;", "times 0 ;", -18);
        dueProof("a;", "by 0 ab;", -15);
        dueProof("a;", "by 0 g;", -15);
        dueProof("a;", "by 0 aa;", -15);
        dueProof("a;", "by 0 0;", -15);
        dueProof("a;", "by 0 by;", -15);
        dueProof("a;", "by a 0;", -13);
        dueProof("a;", "by 1 a;", -13);
        dueProof("a;", "by 0 a b;", -17);
        dueProof("a;", "claim;", -15);
        dueProof("a;", "claim a", -17);
        dueProof("a;", "claim a+;", -18);
        dueProof("a;", "claim 2;", -16);
        dueProof("a;", "claim add;", -16);
        dueProof("a;", "claim b;claim ?", -24);
        dueProof("", "add 0 0;", -14);
    }

    private static void wrong() {
        NoughtSums x = made("a+b;c;");
        due("a wrong claim", Checks.proof(x, "add 0 1;claim ac;claim a;by 4 f;claim b;add 3 3;"), 2);
        due("its step", x.wrong(), 2);
        due("steps told", x.count(2), 6);
        due("lines", x.count(1), 2);
        due("no line of its own", x.value(4, 0), NoughtSums.BAD);
        due("a fault behind it counts", Checks.proof(x, "claim a;add 9 0;"), -22);
        due("wrong stays", x.wrong(), 2);
        due("wrong at once", Checks.proof(x, "claim 1;"), 0);
        due("step 0", x.wrong(), 0);
        due("right ones", Checks.proof(x, "claim a+b+c;claim 0;claim abc;"), 3);
        due("none", x.wrong(), NoughtSums.NONE);
        due("all follows if no world is common", Checks.given(x, "a;a+1;"), 2);
        due("any claim", Checks.proof(x, "claim abcdef;claim f;"), 2);
        due("none wrong", x.wrong(), NoughtSums.NONE);
    }

    private static void end() {
        NoughtSums x = made("a;a+1;");
        due("none yet", x.end(), NoughtSums.NONE);
        due("proof", Checks.proof(x, "add 0 0;add 0 1;claim 1;"), 3);
        due("the first", x.end(), 3);
        due("given 1", Checks.given(x, "a;1;"), 2);
        due("a given one", x.end(), 1);
        due("wrong ones do not count", Checks.proof(made("a;"), "claim 1;"), 0);
        due("none", made("a;", "claim 1;").end(), NoughtSums.NONE);
    }

    private static void line() {
        NoughtSums x = made("a;b+1;", "times 0 1;");
        due("line 0", x.line(0), 2);
        due("line 1", x.line(1), 5);
        due("line 2", x.line(2), 10);
        due("line 3", x.line(3), 0);
        for (int i : OUTSIDE) {
            due("line " + i, x.line(i), 0);
        }
    }

    private static void value() {
        NoughtSums x = made("ab+c+1;", "by 0 f;");
        due("abc 0", x.value(0, 0), 1);
        due("ab", x.value(0, 3), 0);
        due("c", x.value(0, 4), 0);
        due("abc", x.value(0, 7), 1);
        due("without f", x.value(1, 7), 0);
        due("with f", x.value(1, 39), 1);
        due("world 63", x.value(0, 63), 1);
        for (int bad : OUTSIDE) {
            due("line " + bad, x.value(bad, 0), NoughtSums.BAD);
            due("world " + bad, x.value(0, bad), NoughtSums.BAD);
        }
        due("line 2", x.value(2, 0), NoughtSums.BAD);
    }

    private static void lead() {
        NoughtSums x = made("f+ab;f+e;0;1;abcdef+1;def+abc;");
        int[] degrees = {2, 1, -9, 0, 6, 3};
        int[] leads = {3, 32, -9, 0, 63, 56};
        for (int i = 0; i < 6; i++) {
            due("degree " + i, x.lead(i, 0), degrees[i]);
            due("lead " + i, x.lead(i, 1), leads[i]);
        }
        due("what 2", x.lead(0, 2), NoughtSums.BAD);
        due("what -1", x.lead(0, -1), NoughtSums.BAD);
        due("line 6", x.lead(6, 0), NoughtSums.BAD);
        due("line -1", x.lead(-1, 1), NoughtSums.BAD);
        due("a bad what of the sum without products", x.lead(2, 5), NoughtSums.BAD);
    }

    private static void both() {
        NoughtSums x = made("a+b;a+1;abcdef+1;0;");
        due("times", x.both(0, 1, 0), 1L << 3 | 1L << 2);
        due("times, turned", x.both(1, 0, 0), 1L << 3 | 1L << 2);
        due("plus", x.both(0, 1, 1), 5);
        due("itself times", x.both(2, 2, 0), 1L << 63 | 1);
        due("itself plus", x.both(2, 2, 1), 0);
        due("nought times", x.both(2, 3, 0), 0);
        due("nought plus", x.both(2, 3, 1), 1L << 63 | 1);
        due("what 2", x.both(0, 1, 2), 0);
        due("what -1", x.both(0, 1, -1), 0);
        for (int bad : OUTSIDE) {
            due("i " + bad, x.both(bad, 0, 1), 0);
            due("j " + bad, x.both(0, bad, 1), 0);
        }
    }

    private static void with() {
        NoughtSums x = made("ab+b+a+1;abcdef+abcde+f;");
        due("a 0", x.with(0, 0, 0), 1L << 2 | 1);
        due("a 1", x.with(0, 0, 1), 0);
        due("b 1", x.with(0, 1, 1), 0);
        due("f 0", x.with(0, 5, 0), 15);
        due("f 1", x.with(0, 5, 1), 15);
        due("f 1 of 1", x.with(1, 5, 1), 1);
        due("f 0 of 1", x.with(1, 5, 0), 1L << 31);
        due("letter 6", x.with(0, 6, 0), 0);
        due("letter -1", x.with(0, -1, 0), 0);
        due("v 2", x.with(0, 5, 2), 0);
        due("v -1", x.with(0, 5, -1), 0);
        due("line 2", x.with(2, 0, 0), 0);
        due("line -1", x.with(-1, 0, 0), 0);
    }

    private static void common() {
        due("a", made("a;").common(), 0x5555555555555555L);
        due("f+1", made("f+1;").common(), 0xFFFFFFFF00000000L);
        due("a and f+1", made("a;f+1;").common(), 0x5555555500000000L);
        due("1", made("1;").common(), 0);
        due("0", made("0;").common(), -1);
        due("a proof changes nothing", made("a;", "claim ab;").common(), 0x5555555555555555L);
        due("nor does a wrong one", made("a;", "claim b;").common(), 0x5555555555555555L);
    }

    private static void follows() {
        NoughtSums x = made("a;b;", "claim ab;add 0 1;");
        for (int i = 0; i < 4; i++) {
            due("follows " + i, x.follows(i), 1);
        }
        due("line 4", x.follows(4), NoughtSums.BAD);
        for (int bad : OUTSIDE) {
            due("line " + bad, x.follows(bad), NoughtSums.BAD);
        }
    }

    private static void standing() {
        due("a+b: b does not stand", made("a+b;").standing(), 0x3333333333333333L);
        due("a world alone", made("a;b;c;d;e+1;f;").standing(), 1);
        due("ab", made("ab;").standing(), 0x7777777777777777L);
        due("f+ab: neither ab nor af, bf", made("f+ab;").standing(), 0x1111111177777777L);
        due("1", made("1;").standing(), 0);
    }

    private static void left() {
        NoughtSums x = made("a+b;", "by 0 c;");
        due("left 0", x.left(0), 0);
        due("left 1", x.left(1), 0);
        due("line 2", x.left(2), 0);
        due("line -1", x.left(-1), 0);
        due("line most", x.left(Integer.MAX_VALUE), 0);
    }

    private static void rest() {
        NoughtSums x = made("a+b;c+1;");
        due("b", x.rest(1L << 2), 2);
        due("abc", x.rest(1L << 7), 2);
        due("c", x.rest(1L << 4), 1);
        due("a+b", x.rest(6), 0);
        due("abd", x.rest(1L << 11), 1L << 9);
        due("none", x.rest(0), 0);
        due("ab is f", made("f+ab;").rest(1L << 3), 1L << 32);
        due("no world", made("1;").rest(-1), 0);
    }

    private static void base() {
        NoughtSums x = made("f+ab;bc+a;");
        due("base 0: f is ab is bc is a", x.base(0), 1L << 1 | 1L << 32);
        for (int k : OUTSIDE) {
            due("base " + k, x.base(k), 0);
        }
        due("behind the last", x.base(x.count(3)), 0);
        NoughtSums y = made("b+a;c+1;");
        due("b+a", y.base(0), 6);
        due("c+1", y.base(1), 17);
        due("two", y.count(3), 2);
        due("no third", y.base(2), 0);
        due("1", made("1;").base(0), 1);
        due("1 alone", made("1;").base(1), 0);
    }

    private static void atOnce() {
        NoughtSums x = made("abcdef+1;a;", "claim 1;by 0 a;add 0 3;claim f+1;add 0 0;");
        int[] want = {6, 1, 6, 6, 6, 7, 0};
        for (int i = 0; i < want.length - 1; i++) {
            due("at once " + i, x.deep(i, 0), want[i]);
        }
        due("nought", x.deep(6, 0), 0);
        NoughtSums y = made("abcdef+1;", "claim a+1;claim 0;");
        due("the product of five letters with a given one", y.deep(1, 0) > 6 ? 1 : 0, 1);
        due("given 1", made("1;").deep(0, 0), 0);
        due("a product of five with a sum of six", made("abcdef+1;", "claim abcde+abcdef;").deep(1, 0), 11);
        NoughtSums z = made("ab;", "claim abc;");
        due("abc by ab", z.deep(1, 0), 3);
        due("given anew", Checks.given(z, "abc;"), 1);
        due("abc is given", z.deep(0, 0), 3);
        due("given anew once more", Checks.given(z, "a;b;"), 2);
        due("a is given", z.deep(0, 0), 1);
        due("what 2", x.deep(0, 2), NoughtSums.BAD);
        due("what -1", x.deep(0, -1), NoughtSums.BAD);
        for (int bad : OUTSIDE) {
            due("line " + bad, x.deep(bad, 0), NoughtSums.BAD);
            due("line " + bad, x.deep(bad, 1), NoughtSums.BAD);
        }
    }

    private static void grown() {
        NoughtSums x = made("abcdef+1;", "claim a+1;claim 0;");
        due("itself", x.deep(0, 1), 6);
        due("a sum of degree 6 is not multiplied", x.deep(1, 1), NoughtSums.NONE);
        due("nought", x.deep(2, 1), 0);
        due("given 1", made("1;", "claim a;").deep(0, 1), 0);
        due("1 by a", made("1;", "claim a;").deep(1, 1), 1);
        due("1 by all", made("1;", "claim abcdef;").deep(1, 1), 6);
        // At depth 2 the leads ab go away, c remains and is multiplied on: at once this takes a letter more.
        NoughtSums y = made("a+1;ab+b+c;", "claim c;claim cd;claim cde;");
        due("c", y.deep(2, 1), 2);
        due("cd", y.deep(3, 1), 2);
        due("cde", y.deep(4, 1), 3);
        due("c at once", y.deep(2, 0), 2);
        due("cd at once", y.deep(3, 0), 3);
        due("cde at once", y.deep(4, 0), 4);
        due("given anew", Checks.given(y, "c;"), 1);
        due("c is given", y.deep(0, 1), 1);
        due("nothing is given", Checks.given(y, ""), 0);
        due("what stands then", y.standing(), -1L);
    }

    private static void needed() {
        NoughtSums x = made("a;b;a+b;ab;0;", "claim ab;claim a+b;claim 0;claim b;add 0 1;by 1 f;");
        int[] numbers = {1, 1, 1, 1, 0, 1, 1, 0, 1, 1, 1};
        int[] sets = {1, 2, 4, 1, 0, 1, 4, 0, 2, 4, 2};
        for (int i = 0; i < numbers.length; i++) {
            due("needed " + i, x.needed(i, 0), numbers[i]);
            due("the set " + i, x.needed(i, 1), sets[i]);
        }
        NoughtSums y = made("a;b;c;a+b+c+1;c+1;", "claim 1;");
        due("two at least", y.needed(5, 0), 2);
        due("the pair", y.needed(5, 1), 4 + 16);
        due("what 2", x.needed(0, 2), NoughtSums.BAD);
        due("what -1", x.needed(0, -1), NoughtSums.BAD);
        for (int bad : OUTSIDE) {
            due("line " + bad, x.needed(bad, 0), NoughtSums.BAD);
        }
        due("all eight", made("a;b;c;d;e;f+ab;ab+cd;a+b+c+d+e+f+1;", "claim 1;").needed(8, 1), 0b10111111);
    }

    private static void weight() {
        NoughtSums x = made("ab+c;0;1;", "claim ab+c;");
        due("sum", x.weight(0, 0), 2);
        due("added", x.weight(1, 0), 2 + 32);
        due("raised", x.weight(2, 0), 2 + 4);
        due("proved", x.weight(3, 0), 68);
        due("sum of none", x.weight(0, 1), 0);
        due("added of none", x.weight(1, 1), 0);
        due("raised of none", x.weight(2, 1), 0);
        due("proved of none", x.weight(3, 1), 0);
        due("raised 1", x.weight(2, 2), 1);
        due("added 1", x.weight(1, 2), 65);
        due("kind 4", x.weight(4, 0), -100);
        due("kind -1", x.weight(-1, 0), -100);
        due("line 4", x.weight(0, 4), -100);
        due("line -1", x.weight(3, -1), -100);
    }

    private static void count() {
        NoughtSums x = made("a+b;c;", "add 0 1;claim a;add 0 0;");
        Checks.typed(x, "abc");
        int[] want = {2, 1, 3, 2, 48, 16, 3};
        for (int what = 0; what < want.length; what++) {
            due("count " + what, x.count(what), want[what]);
        }
        due("count 7", x.count(7), NoughtSums.BAD);
        due("count -1", x.count(-1), NoughtSums.BAD);
        due("count least", x.count(Integer.MIN_VALUE), NoughtSums.BAD);
        NoughtSums none = made("1;");
        due("base of no world", none.count(3), 1);
        due("free of no world", none.count(4), 64);
        due("no world", none.count(5), 0);
    }

    private static void trace() {
        NoughtSums x = made("ab+c;");
        due("nothing", x.trace(), 0);
        int[] steps = {1, 11, 101, 1011};
        long want = 0;
        for (int kind = 0; kind < 4; kind++) {
            x.weight(kind, 0);
            want += steps[kind];
            due("trace " + kind, x.trace(), want);
        }
        x.weight(4, 0);
        x.weight(0, 1);
        due("refused ones do not come", x.trace(), want);
        Checks.given(x, "a;");
        Checks.proof(x, "claim a;");
        x.left(0);
        due("given and proof leave it", x.trace(), want);
    }
}
