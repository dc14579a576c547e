/**
 * Promise 4, given: THE TEXT becomes GIVEN (no PROOF then), and is empty then: how many. -10 less FAULT: nothing
 * changes. GIVEN are 8 SUMS at most; SUM ; each, TERMS with + between.
 */
public final class Promise04GivenTest {
    private static final Checks C = new Checks("Promise04GivenTest");

    public static void main(String[] args) {
        ordinaryText();
        emptyTextGivesNone();
        blanksAloneGiveNone();
        eightSumsAtMost();
        ninthSumIsAFault();
        fullText();
        fullTextEndsInEachToken();
        noProofThen();
        textIsEmptyThen();
        twoAlikeGoAway();
        lettersAreAToF();
        eachLetterOnce();
        oneAndNoughtAreTheOnlyNumbers();
        plusStandsBetweenTerms();
        semicolonEndsEachSum();
        wordsOfTheProofCanNotStand();
        eachByteAlone();
        eachByteBehindALetter();
        eachByteBehindASum();
        blanksStandBetweenTokens();
        endsTooEarly();
        firstFaultCounts();
        faultChangesNothing();
        textStaysBehindAFault();
        C.finish();
    }

    private static void dueGiven(String text, int want) {
        C.due("given of '" + text + "'", Checks.given(new NoughtSums(), text), want);
    }

    private static void dueSum(String text, long want) {
        NoughtSums x = new NoughtSums();
        C.due("given of '" + text + ";'", Checks.given(x, text + ";"), 1);
        C.due("the sum " + text, x.line(0), want);
    }

    private static void ordinaryText() {
        NoughtSums x = new NoughtSums();
        C.due("given", Checks.given(x, "  a +ba+ 1 ;0;1+1; fedcba;"), 4);
        C.due("sum 0", x.line(0), 1L << 1 | 1L << 3 | 1L);
        C.due("sum 1", x.line(1), 0);
        C.due("sum 2", x.line(2), 0);
        C.due("sum 3", x.line(3), 1L << 63);
        C.due("count", x.count(0), 4);
    }

    private static void emptyTextGivesNone() {
        NoughtSums x = Checks.full();
        C.due("given of the empty text", x.given(), 0);
        C.same("a new object's answers", Checks.told(new NoughtSums()), Checks.told(x));
    }

    private static void blanksAloneGiveNone() {
        for (int blanks : new int[] {1, 2, 399, 400}) {
            NoughtSums x = Checks.full();
            C.due("given of " + blanks + " blanks", Checks.given(x, " ".repeat(blanks)), 0);
            C.due("sums", x.count(0), 0);
            C.due("all worlds", x.common(), -1L);
        }
    }

    private static void eightSumsAtMost() {
        for (int n = 0; n <= 8; n++) {
            NoughtSums x = new NoughtSums();
            StringBuilder text = new StringBuilder();
            for (int k = 0; k < n; k++) {
                text.append(Checks.product(k + 1)).append(';');
            }
            C.due(n + " sums", Checks.given(x, text.toString()), n);
            C.due("count of " + n, x.count(0), n);
            for (int k = 0; k <= 8; k++) {
                C.due("line " + k + " of " + n, x.line(k), k < n ? 1L << (k + 1) : 0);
            }
        }
        dueGiven("a;b;c;d;e;f;1;0;   ", 8);
    }

    private static void ninthSumIsAFault() {
        String eight = "a;b;c;d;e;f;1;0;";
        for (String first : new String[] {"a", "abcdef", "0", "1", ";", "+", "claim", "z", "2", "100", "00", "?"}) {
            dueGiven(eight + first, -10 - 16);
            dueGiven(eight + "  " + first + ";", -10 - 18);
        }
        dueGiven(eight + "a;b;", -26);
        dueGiven("a;b;c;d;e;f;1;;0;", -24);
    }

    private static void fullText() {
        dueGiven("a" + "+a".repeat(198) + "+  ", -410);
        NoughtSums x = new NoughtSums();
        C.due("200 terms alike in 400 bytes", Checks.given(x, "a" + "+a".repeat(199) + ";"), 1);
        C.due("they go away", x.line(0), 0);
        C.due("199 terms alike in 399 bytes", Checks.given(x, "a" + "+a".repeat(198) + "; "), 1);
        C.due("one remains", x.line(0), 2);
        C.due("all 64 products", Checks.given(x, Checks.sum(-1L) + ";"), 1);
        C.due("the sum of all", x.line(0), -1L);
        C.due("the last byte is ;", Checks.given(x, " ".repeat(398) + "f;"), 1);
        C.due("the last byte is missing", Checks.given(x, " ".repeat(399) + "f"), -410);
        C.due("the last byte begins no token", Checks.given(x, "f;" + " ".repeat(397) + "?"), -409);
        C.due("a word up to the last byte", Checks.given(x, " ".repeat(100) + "z".repeat(300)), -110);
        C.due("a number up to the last byte", Checks.given(x, "9".repeat(400)), -10);
        C.due("noughts up to the last byte", Checks.given(x, "0".repeat(400)), -10);
    }

    private static void fullTextEndsInEachToken() {
        for (String end : new String[] {"a", "abcdef", "0", "1", "a+", "a+f", "a+1"}) {
            dueGiven(" ".repeat(400 - end.length()) + end, -410);
            dueGiven(" ".repeat(399 - end.length()) + end, -409);
        }
        for (String end : new String[] {"aa", "g", "claim", "2", "01", "100", "+", ";"}) {
            dueGiven(" ".repeat(400 - end.length()) + end, -410 + end.length());
        }
    }

    private static void noProofThen() {
        NoughtSums x = Checks.made("a;b;", "add 0 1;claim c;claim 0;");
        C.due("a proof's line", x.line(2), 6);
        C.due("given of one", Checks.given(x, "1;"), 1);
        C.due("lines of the proof", x.count(1), 0);
        C.due("steps", x.count(2), 0);
        C.due("wrong", x.wrong(), NoughtSums.NONE);
        for (int i = 1; i < 4; i++) {
            C.due("line " + i, x.line(i), 0);
            C.due("value " + i, x.value(i, 0), NoughtSums.BAD);
        }
        NoughtSums y = Checks.made("a;a+1;", "claim 1;");
        C.due("the end", y.end(), 2);
        C.due("the same sums anew", Checks.given(y, "a;a+1;"), 2);
        C.due("no end then", y.end(), NoughtSums.NONE);
    }

    private static void textIsEmptyThen() {
        NoughtSums x = Checks.made("a;b;");
        C.due("bytes", x.count(6), 0);
        C.due("clear", x.clear(), 0);
        C.due("given again: none", x.given(), 0);
    }

    private static void twoAlikeGoAway() {
        dueSum("a", 2);
        dueSum("a+a", 0);
        dueSum("a+a+a", 2);
        dueSum("ab+ba", 0);
        dueSum("ab+b+ba", 4);
        dueSum("1", 1);
        dueSum("1+1", 0);
        dueSum("1+1+1", 1);
        dueSum("0", 0);
        dueSum("0+0", 0);
        dueSum("0+a", 2);
        dueSum("a+0+1", 3);
        dueSum("fedcba+abcdef+abcdef", 1L << 63);
    }

    private static void lettersAreAToF() {
        for (char c = 'a'; c <= 'z'; c++) {
            NoughtSums x = new NoughtSums();
            C.due("given of " + c, Checks.given(x, c + ";"), c <= 'f' ? 1 : -10);
            C.due("the sum " + c, x.line(0), c <= 'f' ? 1L << (1 << (c - 'a')) : 0);
            dueGiven("b+a" + c + ";", c == 'a' || c > 'f' ? -12 : 1);
        }
        for (int product = 0; product < 64; product++) {
            dueSum(Checks.product(product), 1L << product);
        }
    }

    private static void eachLetterOnce() {
        for (String run : new String[] {"a", "ab", "abc", "abcd", "abcde", "abcdef"}) {
            dueGiven(run + ";", 1);
            dueGiven("0+" + run + run.charAt(run.length() - 1) + ";", -12);
            dueGiven("0+" + run + run.charAt(0) + ";", -12);
            dueGiven("0+" + run + "g;", -12);
        }
    }

    private static void oneAndNoughtAreTheOnlyNumbers() {
        for (int n = 0; n <= 120; n++) {
            dueGiven(n + ";", n <= 1 ? 1 : -10);
            dueGiven("a + " + n + ";", n <= 1 ? 1 : -14);
        }
        for (String bad : new String[] {"00", "01", "000", "001", "010", "10", "11", "4294967296", "4294967297",
            "18446744073709551616", "18446744073709551617", "256", "257", "65536", "65537"}) {
            dueGiven(bad + ";", -10);
            dueGiven("a+" + bad + ";", -12);
        }
        dueGiven("0 0;", -12);
        dueGiven("1 1;", -12);
        dueGiven("-1;", -10);
    }

    private static void plusStandsBetweenTerms() {
        dueGiven("+;", -10);
        dueGiven("+a;", -10);
        dueGiven("a+;", -12);
        dueGiven("a++b;", -12);
        dueGiven("a+ +b;", -13);
        dueGiven("a b;", -12);
        dueGiven("a 1;", -12);
        dueGiven("1a;", -11);
        dueGiven("a1;", -11);
        dueGiven("a+b c;", -14);
    }

    private static void semicolonEndsEachSum() {
        dueGiven(";", -10);
        dueGiven("  ;", -12);
        dueGiven("a;;", -12);
        dueGiven("a; ;b;", -13);
        dueGiven("a;b", -13);
        dueGiven("a;b;c", -15);
        dueGiven(";a;", -10);
    }

    private static void wordsOfTheProofCanNotStand() {
        for (String word : new String[] {"add", "by", "times", "claim"}) {
            dueGiven(word + ";", -10);
            dueGiven("a+" + word + ";", -12);
            dueGiven("a " + word + ";", -12);
            dueGiven("a;" + word + " 0 0;", -12);
        }
    }

    private static void eachByteAlone() {
        for (int octet = 0; octet < 256; octet++) {
            char c = (char) octet;
            boolean term = c >= 'a' && c <= 'f' || c == '0' || c == '1';
            dueGiven(String.valueOf(c), c == ' ' ? 0 : term ? -11 : -10);
        }
    }

    private static void eachByteBehindALetter() {
        for (int octet = 0; octet < 256; octet++) {
            char c = (char) octet;
            int want = -12;
            if (c == ' ' || c >= 'b' && c <= 'f') {
                want = 1;
            } else if (c == '+' || c == ';') {
                want = -13;
            } else if (c >= 'a' && c <= 'z') {
                want = -11;
            }
            dueGiven(" a" + c + ";", want);
        }
    }

    private static void eachByteBehindASum() {
        for (int octet = 0; octet < 256; octet++) {
            char c = (char) octet;
            boolean term = c >= 'a' && c <= 'f' || c == '0' || c == '1';
            dueGiven("a;" + c, c == ' ' ? 1 : term ? -13 : -12);
            dueGiven("a;" + c + ";", c == ' ' ? -13 : term ? 2 : -12);
        }
    }

    private static void blanksStandBetweenTokens() {
        dueGiven("a+bc+1;0;", 2);
        dueGiven(" a + bc + 1 ; 0 ; ", 2);
        dueGiven("   a   +   bc   +   1   ;   0   ;   ", 2);
        dueGiven("a b;", -12);
        dueGiven("1 0;", -12);
    }

    private static void endsTooEarly() {
        String text = " ab + 1 ;";
        int[] due = {0, 0, -12, -13, -14, -15, -16, -17, -18, 1};
        for (int k = 0; k <= text.length(); k++) {
            dueGiven(text.substring(0, k), due[k]);
        }
        dueGiven("a;b+   ", -17);
        dueGiven("a;b   ", -16);
    }

    private static void firstFaultCounts() {
        dueGiven("a b ?", -12);
        dueGiven("a+aa+?;", -12);
        dueGiven("? ;;", -10);
        dueGiven("a;b+g;h;", -14);
        dueGiven("2+", -10);
        dueGiven("a+", -12);
    }

    private static void faultChangesNothing() {
        String[] faulty = {";", "a", "a+", "a;;", "aa;", "g;", "2;", "01;", "?", "add;", "a;b;c;d;e;f;1;0;a;"};
        for (String text : faulty) {
            NoughtSums x = Checks.made("a+b;c;", "add 0 1;claim ac+bc;claim 1;by 0 a;");
            x.weight(3, 2);
            Checks.typed(x, text);
            String ahead = Checks.told(x);
            C.due("given of '" + text + "' is a fault", x.given() <= -10 ? 1 : 0, 1);
            C.same("a fault in '" + text + "'", ahead, Checks.told(x));
            C.due("the bytes of '" + text + "'", x.clear(), text.length());
        }
    }

    private static void textStaysBehindAFault() {
        NoughtSums x = Checks.made("a;");
        Checks.typed(x, "b+");
        C.due("it ends too early", x.given(), -12);
        C.due("again", x.given(), -12);
        C.due("as a proof", x.proof(), -10);
        Checks.typed(x, "c;");
        C.due("it goes on", x.given(), 1);
        C.due("the sum", x.line(0), 1L << 2 | 1L << 4);
    }
}
