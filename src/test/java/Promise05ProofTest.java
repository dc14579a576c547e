/**
 * Promise 5, proof: THE TEXT becomes THE PROOF, and is empty then: how many LINES it makes. -10 less FAULT: nothing
 * changes. 24 STEPS at most: add I J ; by I LETTER ; times I J ; claim SUM ; (I, J: LINES told ahead).
 */
public final class Promise05ProofTest {
    private static final Checks C = new Checks("Promise05ProofTest");

    public static void main(String[] args) {
        ordinaryText();
        emptyTextMakesNoLines();
        stepsAtMost24();
        step25IsAFault();
        fullText();
        fullTextEndsInEachToken();
        linesGoOnBehindGiven();
        addTakesTwoAlikeAway();
        byGivesEachProductTheLetter();
        timesTakesEachWithEach();
        claimIsRightJustIfItFollows();
        wrongClaimCutsTheLines();
        linesToldAhead();
        lastLineToldAhead();
        noLineToldAheadWithoutGiven();
        linesOfTheOldProofAreNotToldAhead();
        linesBehindAWrongClaimAreTold();
        numbersAreUpTo99();
        letterIsARunOfOne();
        claimTakesASum();
        stepsBeginWithTheirWord();
        wordsAreToldByEachLetter();
        eachByteAlone();
        eachByteBehindAWord();
        eachByteBehindANumber();
        blanksStandBetweenTokens();
        endsTooEarly();
        tooManyTokens();
        firstFaultCounts();
        textIsEmptyThen();
        faultChangesNothing();
        textStaysBehindAFault();
        C.finish();
    }

    private static void dueProof(String given, String text, int want) {
        C.due("proof of '" + text + "' behind '" + given + "'", Checks.proof(Checks.made(given), text), want);
    }

    private static void dueProof(String text, int want) {
        dueProof("a;", text, want);
    }

    /** The LINE that one STEP makes behind these GIVEN. */
    private static void dueLine(String given, String step, long want) {
        NoughtSums x = Checks.made(given);
        C.due("proof of '" + step + "' behind '" + given + "'", Checks.proof(x, step), 1);
        C.due("the line of '" + step + "' behind '" + given + "'", x.line(x.count(0)), want);
    }

    private static void ordinaryText() {
        NoughtSums x = Checks.made("a+b;bc;0;");
        C.due("proof", Checks.proof(x, "add 0 1; by 3 c ;times 0 1;claim ac;add 3 6 ;"), 5);
        C.due("add", x.line(3), 1L << 1 | 1L << 2 | 1L << 6);
        C.due("by", x.line(4), 1L << 5);
        C.due("times", x.line(5), 1L << 7 | 1L << 6);
        C.due("claim", x.line(6), 1L << 5);
        C.due("add of a proof's lines", x.line(7), 1L << 1 | 1L << 2 | 1L << 6 | 1L << 5);
        C.due("given stay", x.count(0), 3);
        C.due("a new proof", Checks.proof(x, "times 0 0;"), 1);
        C.due("its line", x.line(3), 6);
        C.due("the old lines go", x.line(4), 0);
        C.due("steps", x.count(2), 1);
    }

    private static void emptyTextMakesNoLines() {
        for (String text : new String[] {"", " ", " ".repeat(400)}) {
            NoughtSums x = Checks.made("a;b;", "add 0 1;claim 1;");
            C.due("proof of " + text.length() + " blanks", Checks.proof(x, text), 0);
            C.due("lines", x.count(1), 0);
            C.due("steps", x.count(2), 0);
            C.due("wrong", x.wrong(), NoughtSums.NONE);
            C.due("given stay", x.count(0), 2);
            C.due("no line", x.line(2), 0);
        }
    }

    private static void stepsAtMost24() {
        for (int steps = 0; steps <= 24; steps++) {
            NoughtSums x = Checks.made("a;b;");
            C.due(steps + " steps", Checks.proof(x, "add 0 1;".repeat(steps)), steps);
            C.due("told", x.count(2), steps);
            C.due("the last line of " + steps, x.line(1 + steps), steps == 0 ? 4 : 6);
            C.due("behind it", x.line(2 + steps), 0);
        }
        dueProof("a;b;", "add 0 1;".repeat(24) + "     ", 24);
        dueProof("a;b;", "claim 1;".repeat(24), 0);
    }

    private static void step25IsAFault() {
        String most = "add 0 1;".repeat(24);
        for (String first : new String[] {"add 0 1", "by 0 a", "times", "claim 0", ";", "+", "a", "z", "0", "100", "?"}) {
            dueProof("a;b;", most + first, -10 - 192);
            dueProof("a;b;", most + "  " + first + ";", -10 - 194);
        }
        dueProof("a;b;", "claim 1;".repeat(24) + "claim 0;", -10 - 192);
        dueProof("a;b;", "add 0 1;".repeat(23) + ";add 0 1;", -10 - 184);
    }

    private static void fullText() {
        NoughtSums x = Checks.made("a;");
        C.due("a claim of 400 bytes", Checks.proof(x, "claim a" + "+ab+ab".repeat(65) + "  ;"), 1);
        C.due("its line", x.line(1), 2);
        C.due("the last byte is ;", Checks.proof(x, " ".repeat(391) + "claim ab;"), 1);
        C.due("the last byte is missing", Checks.proof(x, " ".repeat(392) + "claim ab"), -410);
        C.due("the last byte begins no token", Checks.proof(x, "claim ab;" + " ".repeat(390) + "?"), -409);
        C.due("a word up to the last byte", Checks.proof(x, "claim ab;" + "a".repeat(391)), -19);
        C.due("a number up to the last byte", Checks.proof(x, "add " + "0".repeat(396)), -14);
        C.due("24 steps in 400 bytes", Checks.proof(x, " ".repeat(208) + "add 0 0;".repeat(24)), 24);
        C.due("25 steps in 400 bytes", Checks.proof(x, " ".repeat(200) + "add 0 0;".repeat(25)), -402);
    }

    private static void fullTextEndsInEachToken() {
        for (String end : new String[] {"add", "by", "times", "claim", "add 0", "by 0", "by 0 a", "claim abc", "claim 1+"}) {
            dueProof(" ".repeat(400 - end.length()) + end, -410);
            dueProof(" ".repeat(399 - end.length()) + end, -409);
        }
        for (String end : new String[] {"a", "abcdef", "z", "100", "+", ";", "claims"}) {
            dueProof(" ".repeat(400 - end.length()) + end, -410 + end.length());
        }
    }

    private static void linesGoOnBehindGiven() {
        NoughtSums x = Checks.full();
        C.due("given", x.count(0), 8);
        C.due("lines of the proof", x.count(1), 24);
        C.due("the first given", x.line(0), 2);
        C.due("the last given", x.line(7), 0);
        C.due("the first of the proof", x.line(8), 6);
        C.due("the second: by 8 c", x.line(9), 1L << 5 | 1L << 6);
        C.due("the third: times 0 9", x.line(10), 1L << 5 | 1L << 7);
        C.due("the last but two: add 2 28", x.line(29), 1L << 4 | 1L << 5 | 1L << 7);
        C.due("the last but one: by 29 f", x.line(30), 1L << 36 | 1L << 37 | 1L << 39);
        C.due("the last: add 30 8", x.line(31), 1L << 36 | 1L << 37 | 1L << 39 | 6);
        C.due("behind it", x.line(32), 0);
        NoughtSums none = new NoughtSums();
        C.due("a proof behind none", Checks.proof(none, "claim 0;"), 1);
        C.due("its line is 0", none.value(0, 0), 0);
        C.due("there is no 1", none.value(1, 0), NoughtSums.BAD);
    }

    private static void addTakesTwoAlikeAway() {
        dueLine("a+b;b+c;", "add 0 1;", 1L << 1 | 1L << 4);
        dueLine("a+b;b+c;", "add 1 0;", 1L << 1 | 1L << 4);
        dueLine("a+b;b+c;", "add 0 0;", 0);
        dueLine("a+b;0;", "add 0 1;", 6);
        dueLine("0;0;", "add 0 1;", 0);
        dueLine("abcdef;1;", "add 0 1;", 1L << 63 | 1);
    }

    private static void byGivesEachProductTheLetter() {
        for (int letter = 0; letter < 6; letter++) {
            char c = (char) ('a' + letter);
            dueLine("1;", "by 0 " + c + ";", 1L << (1 << letter));
            dueLine("abcdef;", "by 0 " + c + ";", 1L << 63);
            dueLine("1+" + c + ";", "by 0 " + c + ";", 0);
            dueLine("0;", "by 0 " + c + ";", 0);
        }
        dueLine("a+b;", "by 0 a;", 1L << 1 | 1L << 3);
        dueLine("a+b;", "by 0 c;", 1L << 5 | 1L << 6);
        dueLine("b+ab+c;", "by 0 a;", 1L << 5);
        dueLine(Checks.sum(-1L) + ";", "by 0 f;", 0);
    }

    private static void timesTakesEachWithEach() {
        dueLine("a+b;c+1;", "times 0 1;", 1L << 5 | 1L << 6 | 6);
        dueLine("a+b;a+1;", "times 0 1;", 1L << 3 | 1L << 2);
        dueLine("a+b;a+b;", "times 0 1;", 6);
        dueLine("a+b;", "times 0 0;", 6);
        dueLine("a+1;a;", "times 0 1;", 0);
        dueLine("a;0;", "times 0 1;", 0);
        dueLine("abc+f;1;", "times 0 1;", 1L << 7 | 1L << 32);
        dueLine("abc;def;", "times 0 1;", 1L << 63);
        dueLine("abcdef+1;abcdef+1;", "times 0 1;", 1L << 63 | 1);
        dueLine(Checks.sum(-1L) + ";a;", "times 0 1;", 0);
    }

    /** COMMON is one world: a claim is right just by its value there. */
    private static void claimIsRightJustIfItFollows() {
        String world = "a;b+1;c;d;e;f;";
        for (String right : new String[] {"a", "0", "b+1", "ab", "abcdef", "1+b+ab", "b+b"}) {
            dueProof(world, "claim " + right + ";", 1);
        }
        for (String wrong : new String[] {"1", "b", "a+b", "1+a", "abcdef+1", "b+bc"}) {
            dueProof(world, "claim " + wrong + ";", 0);
        }
        for (String any : new String[] {"0", "1", "f", "abcdef", "a+b+1"}) {
            dueProof("1;", "claim " + any + ";", 1);
            dueProof("", "claim " + any + ";", any.equals("0") ? 1 : 0);
            dueProof("0;", "claim " + any + ";", any.equals("0") ? 1 : 0);
        }
        dueProof(Checks.sum(Checks.sumOfWorlds(1L << 63)) + ";", "claim abcdef;", 1);
        dueProof(Checks.sum(Checks.sumOfWorlds(1L << 63)) + ";", "claim abcde;", 0);
    }

    private static void wrongClaimCutsTheLines() {
        dueProof("claim b;add 0 0;claim 0;", 0);
        dueProof("add 0 0;claim b;claim 0;", 1);
        dueProof("add 0 0;claim 0;claim b;", 2);
        dueProof("add 0 0;".repeat(23) + "claim b;", 23);
        dueProof("claim b;" + "add 0 0;".repeat(23), 0);
    }

    /** Behind two GIVEN a STEP k may take 0 .. 1 + k. */
    private static void linesToldAhead() {
        String[] steps = {"", "add 0 1;", "add 0 1;claim 0;"};
        for (int k = 0; k < steps.length; k++) {
            int at = -10 - steps[k].length();
            for (int i = 0; i < 6; i++) {
                boolean told = i < 2 + k;
                dueProof("a;b;", steps[k] + "add " + i + " 0;", told ? k + 1 : at - 4);
                dueProof("a;b;", steps[k] + "add 0 " + i + ";", told ? k + 1 : at - 6);
                dueProof("a;b;", steps[k] + "times " + i + " 0;", told ? k + 1 : at - 6);
                dueProof("a;b;", steps[k] + "times 0 " + i + ";", told ? k + 1 : at - 8);
                dueProof("a;b;", steps[k] + "by " + i + " a;", told ? k + 1 : at - 3);
            }
        }
    }

    private static void lastLineToldAhead() {
        String ahead = "add 0 1;".repeat(23);
        for (int i = 29; i <= 33; i++) {
            int first = -10 - ahead.length();
            dueProof(Checks.EIGHT_GIVEN, ahead + "add " + i + " 0;", i <= 30 ? 24 : first - 4);
            dueProof(Checks.EIGHT_GIVEN, ahead + "add 0 " + i + ";", i <= 30 ? 24 : first - 6);
            dueProof(Checks.EIGHT_GIVEN, ahead + "times 0 " + i + ";", i <= 30 ? 24 : first - 8);
            dueProof(Checks.EIGHT_GIVEN, ahead + "by " + i + " f;", i <= 30 ? 24 : first - 3);
        }
    }

    private static void noLineToldAheadWithoutGiven() {
        dueProof("", "add 0 0;", -14);
        dueProof("", "times 0 0;", -16);
        dueProof("", "by 0 a;", -13);
        dueProof("", "claim 0;add 0 0;", 2);
        dueProof("", "claim 0;add 0 1;", -24);
    }

    private static void linesOfTheOldProofAreNotToldAhead() {
        NoughtSums x = Checks.made("a;b;", "add 0 1;add 0 1;");
        C.due("a number of the old proof", Checks.proof(x, "add 0 2;"), -16);
        C.due("the old proof stays", x.count(1), 2);
        C.due("the last given", Checks.proof(x, "add 0 1;"), 1);
        NoughtSums y = Checks.made("a;b;c;");
        Checks.given(y, "a;");
        C.due("a number of the old given", Checks.proof(y, "by 1 a;"), -13);
    }

    /** "Told ahead" is the text's: the STEP of a wrong claim is told, though it has no LINE in the end. */
    private static void linesBehindAWrongClaimAreTold() {
        dueProof("claim b;by 1 a;", 0);
        dueProof("claim b;by 2 a;", -21);
        dueProof("claim b;by 1 a;add 1 2;", 0);
        dueProof("claim b;by 1 a;add 1 3;", -31);
    }

    private static void numbersAreUpTo99() {
        for (int n = 0; n <= 130; n++) {
            dueProof("by " + n + " a;", n == 0 ? 1 : -13);
            dueProof("add 0 " + n + ";", n == 0 ? 1 : -16);
        }
        for (String bad : new String[] {"00", "000", "01", "0".repeat(30), "256", "65536", "4294967296",
            "18446744073709551616", "340282366920938463463374607431768211456", "-0", "+0"}) {
            dueProof("by " + bad + " a;", -13);
            dueProof("add 0 " + bad + ";", -16);
        }
        dueProof("a;b;c;d;e;f;1;0;", "add 0 1;add 0 1;add 0 1;add 10 10;", 4);
        dueProof("a;b;c;d;e;f;1;0;", "add 0 1;add 0 1;add 0 1;add 010 10;", -38);
    }

    private static void letterIsARunOfOne() {
        for (char c = 'a'; c <= 'z'; c++) {
            dueProof("by 0 " + c + ";", c <= 'f' ? 1 : -15);
            dueProof("by 0 a" + c + ";", -15);
        }
        for (String bad : new String[] {"abcdef", "0", "1", ";", "+", "by", "add", "?", "A"}) {
            dueProof("by 0 " + bad + ";", -15);
        }
        dueProof("by 0 a b;", -17);
        dueProof("by 0 a + b;", -17);
        dueProof("by a 0;", -13);
    }

    private static void claimTakesASum() {
        dueProof("claim 0;", 1);
        dueProof("claim a+ab+0;", 1);
        dueProof("claim ;", -16);
        dueProof("claim;", -15);
        dueProof("claim +a;", -16);
        dueProof("claim a+;", -18);
        dueProof("claim a b;", -18);
        dueProof("claim aa;", -16);
        dueProof("claim g;", -16);
        dueProof("claim claim a;", -16);
        dueProof("claim add;", -16);
        for (int n = 2; n <= 101; n++) {
            dueProof("claim " + n + ";", -16);
            dueProof("claim a+" + n + ";", -18);
        }
        dueProof("claim 00;", -16);
        dueProof("claim 01;", -16);
    }

    private static void stepsBeginWithTheirWord() {
        for (String bad : new String[] {";", "a;", "abc 0 0;", "0;", "1;", "+;", "ad 0 0;", "addd 0 0;", "dd 0 0;",
            "b 0 a;", "bya 0 a;", "time 0 0;", "timess 0 0;", "clai 0;", "claims 0;", "claimab;", "addby 0 0;", "ADD 0 0;",
            "z 0 0;", "prove 0;"}) {
            dueProof(bad, -10);
            dueProof("claim 0; " + bad, -19);
        }
    }

    private static void wordsAreToldByEachLetter() {
        String[] steps = {"add 0 0;", "by 0 a;", "times 0 0;", "claim a;"};
        for (String step : steps) {
            dueProof(step, 1);
            for (int k = 0; step.charAt(k) != ' '; k++) {
                for (char c = 'a'; c <= 'z'; c++) {
                    String near = step.substring(0, k) + c + step.substring(k + 1);
                    dueProof(near, c == step.charAt(k) ? 1 : -10);
                }
            }
        }
    }

    private static void eachByteAlone() {
        for (int octet = 0; octet < 256; octet++) {
            dueProof(String.valueOf((char) octet), octet == ' ' ? 0 : -10);
        }
    }

    private static void eachByteBehindAWord() {
        for (int octet = 0; octet < 256; octet++) {
            char c = (char) octet;
            boolean letter = c >= 'a' && c <= 'z';
            int want = letter ? -10 : c == ' ' ? 1 : c == '0' || c == '1' ? -16 : -15;
            dueProof("claim" + c + "a;", want);
            dueProof("by" + c + " 0 a;", letter ? -10 : c == ' ' ? 1 : c == '0' ? -14 : -12);
        }
    }

    private static void eachByteBehindANumber() {
        for (int octet = 0; octet < 256; octet++) {
            char c = (char) octet;
            boolean digit = c >= '0' && c <= '9';
            boolean letter = c >= 'a' && c <= 'z';
            int behindI = c == ' ' ? 1 : digit ? -13 : c >= 'b' && c <= 'f' ? 1 : -14;
            dueProof("by 0" + c + (letter ? ";" : "a;"), letter && c == 'a' ? 1 : behindI);
            dueProof("add 0 0" + c + ";", c == ' ' ? 1 : c == ';' ? -18 : digit ? -16 : -17);
        }
    }

    private static void blanksStandBetweenTokens() {
        dueProof("add 0 0;claim a+ab;", 2);
        dueProof("  add  0  0  ;  claim  a  +  ab  ;  ", 2);
        dueProof("by0a;", 1);
        dueProof("by 0a;", 1);
        dueProof("add 00;", -14);
        dueProof("ad d 0 0;", -10);
        dueProof("claim a\t;", -17);
        dueProof("claim a\n;", -17);
    }

    private static void endsTooEarly() {
        String[] texts = {"add 0 0 ;", "by 0 a ;", "times 0 0 ;", "claim a+0 ;"};
        int[][] due = {
            {0, -10, -10, -13, -14, -15, -16, -17, -18, 1},
            {0, -10, -12, -13, -14, -15, -16, -17, 1},
            {0, -10, -10, -10, -10, -15, -16, -17, -18, -19, -20, 1},
            {0, -10, -10, -10, -10, -15, -16, -17, -18, -19, -20, 1}
        };
        for (int t = 0; t < texts.length; t++) {
            for (int k = 0; k <= texts[t].length(); k++) {
                dueProof(texts[t].substring(0, k), due[t][k]);
            }
        }
        dueProof("claim 0;add   ", -24);
    }

    private static void tooManyTokens() {
        dueProof("add 0 0 0;", -18);
        dueProof("add 0 0 a;", -18);
        dueProof("add 0 + 0;", -16);
        dueProof("add 0;", -15);
        dueProof("add ;", -14);
        dueProof("add a 0;", -14);
        dueProof("times 0;", -17);
        dueProof("times 0 0 0;", -20);
        dueProof("by 0 a 0;", -17);
        dueProof("add 0 0;;", -18);
        dueProof("add 0 0 add 0 0;", -18);
    }

    private static void firstFaultCounts() {
        dueProof("add 0 9;?", -16);
        dueProof("add 9 8;", -14);
        dueProof("claim b;claim ?;", -24);
        dueProof("claim a a ?", -18);
        dueProof("by 9 aa;", -13);
    }

    private static void textIsEmptyThen() {
        NoughtSums x = Checks.made("a;", "claim ab;");
        C.due("bytes", x.count(6), 0);
        C.due("the line", x.line(1), 8);
        C.due("proof again: of the empty text", x.proof(), 0);
        C.due("a wrong proof, too", Checks.proof(x, "claim b;"), 0);
        C.due("is taken", x.count(6), 0);
    }

    private static void faultChangesNothing() {
        String[] faulty = {";", "a", "add", "add 0 4;", "by 0 ab;", "times 0 0", "claim 2;", "claim b;?", "z", "?",
            "claim 0;add 0 0;add 0 9;", "add 0 1;".repeat(25)};
        for (String text : faulty) {
            NoughtSums x = Checks.made("a+b;c;", "add 0 1;claim ac+bc;claim 1;by 0 a;");
            x.weight(3, 2);
            Checks.typed(x, text);
            String ahead = Checks.told(x);
            C.due("proof of '" + text + "' is a fault", x.proof() <= -10 ? 1 : 0, 1);
            C.same("a fault in '" + text + "'", ahead, Checks.told(x));
            C.due("the bytes of '" + text + "'", x.clear(), text.length());
        }
    }

    private static void textStaysBehindAFault() {
        NoughtSums x = Checks.made("a;b;");
        Checks.typed(x, "add 0 ");
        C.due("it ends too early", x.proof(), -16);
        C.due("again", x.proof(), -16);
        C.due("as given", x.given(), -10);
        Checks.typed(x, "1;");
        C.due("it goes on", x.proof(), 1);
        C.due("the line", x.line(2), 6);
    }
}
