/** The Terms (I to IV): each limit that a sentence of these names, just within it, at it, just beyond it. */
public final class TermsTest {

    private static final int NONE = ForeheadMarks.NONE;
    private static final String FIVE = "guest a wears 0;guest b wears 0;guest c wears 0;guest d wears 0;guest e wears 0;";
    private static final int[] NO_BLANKS = {0, 1, 8, 9, 11, 12, 13, 31, 33, 95, 127, 128, 133, 160, 255};

    private static void due(String call, long got, long want) {
        TestKit.due(call, got, want);
    }

    // ---- I. A PARLOUR

    /** "{ STATEMENT ; } (60 at most)", "a 61st STATEMENT (whatever stands there), at its first byte". */
    private static void sixtyStatements() {
        String most = "marks 2;" + "slip 3;".repeat(59);
        Texts.good(60, most);
        Texts.good(59, "marks 2;" + "slip 3;".repeat(58));
        Texts.good(60, most + "  \n ");
        for (String any : new String[] {"slip 1;", "marks 2;", "guest a wears 0;", "x", "9", ";", "[", "slip", "all"}) {
            Texts.bad(5, most + "|" + any);
            Texts.bad(5, most + "\n |" + any);
        }
        Texts.bad(1, "marks 2;" + "slip 3;".repeat(58) + "slip 3|");
        Texts.bad(1, "marks 2;" + "slip 3;".repeat(58) + "|x");
    }

    /** "marks N (2 .. 4; the first STATEMENT, and it alone)". */
    private static void marksFirst() {
        for (int n = 2; n <= 4; n++) {
            ForeheadMarks x = TestKit.with("marks " + n + ";");
            due("marks " + n, x.has(0), n);
        }
        for (String n : new String[] {"0", "1", "5", "12", "9999", "0000", "0001", "0005"}) {
            Texts.bad(2, "marks |" + n + ";");
        }
        Texts.good(1, "marks 0004;");
        Texts.bad(1, "marks 0000|4;");
        for (String word : "guest blind rule fact slip".split(" ")) {
            Texts.bad(1, "|" + word + " a wears 0;");
            Texts.bad(1, "marks 2;slip 1;|marks 2;" + word);
        }
    }

    /** "guest NAME wears N (a MARK, 0 .. that number less 1; 5 GUESTS)". */
    private static void guestsFive() {
        for (int n = 2; n <= 4; n++) {
            Texts.good(3, "marks " + n + ";guest a wears 0;guest b wears " + (n - 1) + ";");
            Texts.bad(2, "marks " + n + ";guest a wears |" + n + ";");
            Texts.bad(2, "marks " + n + ";guest a wears |9999;");
            Texts.bad(1, "marks " + n + ";guest a wears |-1;");
        }
        Texts.good(6, "marks 4;" + FIVE);
        Texts.bad(5, "marks 4;" + FIVE + "|guest f wears 0;");
        Texts.bad(5, "marks 4;" + FIVE + "slip 0; |guest a");
        Texts.bad(5, "marks 4;" + FIVE + "|guest 1");
        Texts.bad(1, "marks 4;" + FIVE + "|guests");
        ForeheadMarks x = TestKit.with("marks 4;" + FIVE);
        due("five guests", x.has(1), 5);
        due("all their rows", x.has(6), 1024);
    }

    /** "blind NAME to NAME (two unlike GUESTS; not told already)". */
    private static void blindPairs() {
        Texts.bad(3, Texts.HEAD + "blind a to |a;");
        Texts.bad(3, Texts.HEAD + "blind b to |b;");
        Texts.bad(3, Texts.HEAD + "blind a to b;blind a to |b;");
        Texts.bad(3, Texts.HEAD + "blind a to b;blind b to a;blind b to |a x");
        StringBuilder all = new StringBuilder("marks 2;" + FIVE);
        for (char g = 'a'; g <= 'e'; g++) {
            for (char h = 'a'; h <= 'e'; h++) {
                all.append(g == h ? "" : "blind " + g + " to " + h + ";");
            }
        }
        ForeheadMarks x = TestKit.with(all.toString());
        for (int g = 0; g < 5; g++) {
            due("nobody is seen", x.guest(g, 1), 0);
            due("all rows are possible", x.guest(g, 2), 32);
        }
        Texts.bad(3, all + "blind e to |d;");
    }

    /** "rule TEST (4 RULES); fact TEST (8 FACTS)". */
    private static void rulesFourFactsEight() {
        for (int n = 0; n <= 4; n++) {
            due("rules", TestKit.with("marks 2;" + "rule all;".repeat(n)).has(2), n);
        }
        for (int n = 0; n <= 8; n++) {
            due("facts", TestKit.with("marks 2;" + "fact not all;".repeat(n)).has(3), n);
        }
        ForeheadMarks x = TestKit.with("marks 2;guest a wears 1;" + "fact all;".repeat(7) + "fact a=0;");
        due("the eighth", x.fact(7, 0), 0);
        due("the seventh", x.fact(6, 0), 1);
        due("the ninth", x.fact(8, 0), NONE);
        Texts.bad(5, "marks 2;" + "rule all;".repeat(4) + "|rule all;");
        Texts.bad(5, "marks 2;" + "fact all;".repeat(8) + "|fact all;");
        Texts.bad(5, "marks 2;" + "rule all;".repeat(4) + "fact all;".repeat(8) + "|rule");
        // the fourth RULE counts as the others do
        due("the fourth", TestKit.with("marks 4;guest a wears 1;rule all;rule all;rule all;rule a=1;").has(6), 1);
        Texts.bad(6, "marks 4;guest a wears 1;rule all;rule all;rule all;rule a=2;|");
    }

    /** "slip N (0 .. 100; the last one counts, 0 without)", "a DRAW of 100: below slip". */
    private static void slipHundred() {
        Texts.good(2, "marks 2;slip 0;");
        Texts.good(2, "marks 2;slip 100;");
        Texts.bad(2, "marks 2;slip |101;");
        Texts.bad(2, "marks 2;slip |9999;");
        Texts.bad(1, "marks 2;slip 0000|1;");
        String head = "marks 2;guest a wears 0;";
        for (int seed = 0; seed < 40; seed++) {
            int drawn = (int) (next(seed) / 64 % 100);
            dueUnheard(head, seed, 0);
            dueUnheard(head + "slip 0;", seed, 0);
            dueUnheard(head + "slip 100;slip 0;", seed, 0);
            dueUnheard(head + "slip 0;slip 100;", seed, 1);
            dueUnheard(head + "slip " + drawn + ";", seed, 0);
            dueUnheard(head + "slip " + (drawn + 1) + ";", seed, 1);
        }
    }

    private static void dueUnheard(String text, int seed, int times) {
        ForeheadMarks x = TestKit.with(text);
        x.seed(seed);
        due("chance(1) by " + seed + " of " + text, x.chance(1), times);
    }

    private static long next(long seed) {
        return (1103515245L * seed + 12345L) % 2147483648L;
    }

    /** "PART: N (1 to 4 digits)", "where a number is asked, a 5th digit at itself". */
    private static void fourDigits() {
        Texts.good(2, "marks 2;rule 0=0 and 00=0 and 000=0 and 0000=0;");
        Texts.good(2, "marks 2;rule 9999=9*1111 and 0010=10;");
        Texts.bad(1, "marks 2;rule 1000|0=1;");
        Texts.bad(1, "marks 2;rule 0000|0=1;");
        Texts.bad(1, "marks 2;rule count 1234|56=1;");
        Texts.badQuestion(1, "total 1234|5");
        Texts.badQuestion(1, "total sees 0000|0");
        Texts.goodQuestion(19998, "total 9999");
    }

    /** "all MARKS together, the greatest one, the least one (0 without GUESTS), how many unlike ones there are". */
    private static void withoutGuests() {
        Texts.good(2, "marks 4;rule sum=0 and top=0 and low=0 and kinds=0 and count 0=0;");
        Texts.good(3, "marks 4;guest a wears 3;rule sum=3 and top=3 and low=3 and kinds=1 and count 3=1 and count 0=0;");
        Texts.good(7, "marks 4;" + FIVE + "rule sum=0 and top=0 and low=0 and kinds=1 and count 0=5;");
        Texts.good(6, "marks 4;guest a wears 0;guest b wears 1;guest c wears 2;guest d wears 3;"
            + "rule sum=6 and top=3 and low=0 and kinds=4;");
        // no GUEST wears a MARK that there is not
        for (int n = 4; n <= 64; n++) {
            Texts.good(7, "marks 4;" + FIVE + "rule count " + n + "=0 and count (0-" + n + ")=0;");
        }
        Texts.good(3, "marks 2;guest a wears 0;rule count 2=0 and count 5=0 and count 9999=0 and count (0-1)=0;");
    }

    /** "/ gives the greatest whole number not above, by 0 it gives 0". */
    private static void quotients() {
        String[] sums = {"7/2", "(0-7)/2", "7/(0-2)", "(0-7)/(0-2)", "(0-6)/2", "0/5", "(0-1)/9999", "5/0", "(0-5)/0", "0/0",
            "1/(0-1)", "1000*1000/1", "(0-1000*1000)/1", "(0-1000*1000)/(0-1)", "9/3/3", "7/2*2"};
        int[] want = {3, -4, -4, 3, -3, 0, -1, 0, 0, 0, -1, 1000000, -1000000, 1000000, 1, 6};
        for (int k = 0; k < sums.length; k++) {
            dueOfOne(sums[k], want[k]);
        }
    }

    /** "each sum, difference, product above 10 to the 6 is that, below -10 to the 6 likewise". */
    private static void heldSums() {
        String[] sums = {"1000*1000", "999*1001", "1001*1000", "9999*9999", "1000*1000+0", "1000*1000+1", "1000*1000-1",
            "1000*1000+1-1", "999*1001+1", "999*1001+2", "0-1000*1000", "0-1000*1000-1", "0-1000*1000-1+1", "0-999*1001-1",
            "0-999*1001-2", "(0-9999)*9999", "(0-9999)*(0-9999)", "9999*9999*0", "9999*9999*(0-9999)", "9999*9999-9999*9999",
            "0-9999*9999-9999*9999", "9999*9999+9999*9999", "max(9999*9999,0-9999*9999)", "min(9999*9999,0-9999*9999)"};
        int m = 1000000;
        int[] want = {m, m - 1, m, m, m, m, m - 1, m - 1, m, m, -m, -m, -m + 1, -m, -m, -m, m, 0, -m, 0, -m, m, m, -m};
        for (int k = 0; k < sums.length; k++) {
            dueOfOne(sums[k], want[k]);
        }
    }

    /** A SUM alike in a QUESTION and, against its parts, in a RULE. */
    private static void dueOfOne(String sum, int want) {
        ForeheadMarks x = TestKit.with("marks 2;guest a wears 0;");
        for (String word : new String[] {"total ", "most ", "least "}) {
            due(word + sum, TestKit.ask(x, word + sum), want);
        }
        String told = "(" + (want < 0 ? "0-" : "") + Math.abs(want) / 1000 + "*1000" + (want < 0 ? "-" : "+") + Math.abs(want) % 1000 + ")";
        Texts.good(2, "marks 2;rule " + sum + "=" + told + ";");
        Texts.bad(6, "marks 2;rule " + sum + "<" + told + ";|");
    }

    /** "NAMES: 1 to 6 letters", "a 7th letter at itself". */
    private static void namesOfSix() {
        String letters = "abcdefghijklm";
        for (int n = 1; n <= 6; n++) {
            ForeheadMarks x = TestKit.with("marks 2;guest " + letters.substring(0, n) + " wears 1;rule " + letters.substring(0, n) + "=1;");
            due("last letter", x.letter(0, n - 1), n);
            due("behind it", n < 6 ? x.letter(0, n) : 0, 0);
        }
        for (int n = 7; n <= 13; n++) {
            Texts.bad(1, "marks 2;guest abcdef|" + letters.substring(6, n) + " wears 1;");
            Texts.bad(1, Texts.HEAD + "blind abcdef|" + letters.substring(6, n) + " to a;");
            Texts.bad(1, Texts.HEAD + "blind a to abcdef|" + letters.substring(6, n) + ";");
            Texts.bad(1, "marks 2;guest abcdef wears 1;rule |" + letters.substring(0, n) + "=1;");
        }
        // names that begin alike, or are one letter longer, are unlike
        Texts.good(6, "marks 2;guest a wears 0;guest aa wears 1;guest aaaaaa wears 1;guest aaaaa wears 0;"
            + "rule aa=1 and a=0 and aaaaaa=1 and aaaaa=0;");
    }

    /** Letters are a to z: any other byte ends a NAME, and none can stand behind it. */
    private static void lettersAlone() {
        for (int c = 0; c < 256; c++) {
            boolean letter = c >= 'a' && c <= 'z';
            boolean blank = c == 10 || c == 32;
            String sign = "" + (char) c;
            if (letter) {
                Texts.good(2, "marks 2;guest a" + sign + " wears 1;");
                Texts.bad(1, "marks 2|" + sign + ";");
            } else {
                Texts.bad(1, "marks 2;guest a" + (blank ? sign + "|b" : "|" + sign + "b") + " wears 1;");
                Texts.bad(1, "marks 2;guest " + (blank ? sign + "|;" : "|" + sign + ";"));
                Texts.bad(1, "marks 2;|sl" + sign + "ip 1;");
            }
            if (!letter && !blank && (c < '0' || c > '9') && c != ';') {
                Texts.bad(1, "marks 2|" + sign + "0;");
            }
        }
    }

    /** "told ahead of where they are asked". */
    private static void toldAhead() {
        Texts.bad(1, "marks 2;rule |a=0;guest a wears 0;");
        Texts.bad(3, "marks 2;guest b wears 0;blind b to |a;guest a wears 0;");
        Texts.good(4, "marks 2;guest a wears 0;rule a=0;guest b wears 1;");
        // RULES are of the whole ROW, those GUESTS too who are told behind them
        Texts.good(4, "marks 2;rule sum=1 and kinds=2;guest a wears 0;guest b wears 1;");
    }

    /** "Blanks (10, 32) are where one likes (words and numbers side by side need one)". */
    private static void blanks() {
        for (int c : NO_BLANKS) {
            Texts.bad(1, "marks 2;|" + (char) c + "slip 1;");
            Texts.bad(1, "|" + (char) c + "marks 2;");
            Texts.badQuestion(1, "total |" + (char) c + "1");
            Texts.badQuestion(1, "total 1|" + (char) c);
        }
        String[] pieces = "marks 3 ; guest a wears 1 ; guest b wears 2 ; blind a to b ; rule not [ a + 0 < b * 1 ] or min ( a , b ) = 1 ; slip 7 ;"
            .split(" ");
        Texts.good(6, String.join(" ", pieces));
        Texts.good(6, "\n\n" + String.join("\n \n", pieces) + " \n ");
        cutShort(pieces);
        Texts.goodQuestion(3, " \n total \n mark \n ");
    }

    /** "at the text's length, if it ends too soon": behind each piece of a text, with and without blanks behind it. */
    private static void cutShort(String[] pieces) {
        StringBuilder text = new StringBuilder();
        for (String piece : pieces) {
            text.append(text.length() == 0 ? "" : " ").append(piece);
            if (!piece.equals(";")) {
                Texts.bad(1, text + "|");
                Texts.bad(1, text + " \n |");
            }
        }
    }

    /** "4 the 7th of ( [ not count that is open at once (not until its FACT, count until its PART ends), at it". */
    private static void sixOpen() {
        String[] opening = {"(", "[", "not ", "count "};
        for (String last : opening) {
            Texts.bad(4, Texts.HEAD + "rule not [ not [ count ( |" + (last.equals("[") || last.equals("not ") ? "(" : last) + "1");
        }
        Texts.bad(4, Texts.HEAD + "rule not not not [ [ [ |[");
        Texts.bad(4, Texts.HEAD + "rule not not not [ [ [ |not all");
        Texts.bad(4, Texts.HEAD + "rule not not not [ [ [ |count 1=0");
        Texts.bad(4, Texts.HEAD + "rule not not not [ [ [ |(1)=1");
        Texts.bad(4, Texts.HEAD + "rule not not not [ [ [ min |(1,1)=1");
        // a seventh, behind the end of one of six, is not open at once with these
        Texts.good(4, Texts.HEAD + "rule [[[[[[a=1] or [b=0]] and not not all]]]];");
        Texts.good(4, Texts.HEAD + "rule [[[[[not a=0 and not b=0]]]]];");
        Texts.good(4, Texts.HEAD + "rule [[[[[count a=1 and count b=1]]]]];");
        Texts.good(4, Texts.HEAD + "rule [[[[[count a+count b-(2)=0]]]]];");
        // count is open while its PART is read, no longer; not is open over both SUMS of its FACT
        Texts.bad(4, Texts.HEAD + "rule [[[[[count |(1)=1");
        Texts.bad(4, Texts.HEAD + "rule [[[[[not a=|(1)");
        Texts.bad(4, Texts.HEAD + "rule [[[[[not |((1");
        Texts.badQuestion(4, "often not not not [ [ [ |[");
        Texts.badQuestion(4, "often not not not [ [ [ |sees 1=0");
        Texts.badQuestion(4, "often not not not [ [ [ |could 1=0");
        Texts.badQuestion(4, "often not not not [ [ [ max |(1,1)=1");
        Texts.badQuestion(4, "often [[[[[not |sees 1=1");
        Texts.goodQuestion(2, "often [[[[[sees number+could mark<9 and not 1=2]]]]]");
    }

    /** What was open, told, or read ahead of a FAULT is forgotten by the next text. */
    private static void afterFaults() {
        ForeheadMarks x = new ForeheadMarks();
        for (int k = 0; k < 3; k++) {
            Texts.badIn(x, 4, "marks 2;rule [[[[[[|[");
            Texts.goodIn(x, 2, "marks 2;rule [[[[[[all]]]]]];");
            Texts.badIn(x, 1, "marks 4;guest a wears 3;guest b wears 3;blind a to b;rule a=3;fact all;slip 100;|[");
            Texts.badQuestionIn(x, 4, "total ((((((|(");
            Texts.goodQuestionIn(x, 0, "total ((((((1))))))");
            due("no guests", x.has(1), 0);
            Texts.goodIn(x, 3, "marks 3;guest b wears 1;guest a wears 2;");
            due("rules", x.has(2), 0);
            due("facts", x.has(3), 0);
            due("rows", x.has(6), 9);
            due("sees", x.guest(1, 1), 1);
            due("slip", x.chance(1), 0);
        }
    }

    /** One after the other, each as long as the tape: nothing of an earlier one is in the way. */
    private static void manyParlours() {
        ForeheadMarks x = new ForeheadMarks();
        String head = "marks 2;guest a wears 0;guest b wears 1;";
        for (int k = 0; k < 12; k++) {
            StringBuilder text = new StringBuilder(head);
            text.append("rule a=0").append("+0*b".repeat(190)).append(";fact b=1").append("-1*a".repeat(190)).append(";");
            text.append(k % 2 == 0 ? "rule b=1;" : "rule b<2;");
            text.append(" ".repeat(1600 - text.length()));
            Texts.goodIn(x, 6, text.toString());
            due("rows", x.has(6), k % 2 == 0 ? 1 : 2);
            due("fact", x.fact(0, 0), 1);
            due("fact", x.fact(0, 2), 1);
        }
    }

    // ---- II. A ROW

    /** "its number is the MARK of GUEST 0, marks times that of GUEST 1, and so on, together". */
    private static void rowNumbers() {
        ForeheadMarks x = TestKit.with("marks 4;" + FIVE);
        due("least", x.left(0), 0);
        due("greatest", x.left(1023), 1023);
        due("beyond", x.left(1024), NONE);
        for (int g = 0; g < 5; g++) {
            due("wears 0", x.wears(0, g), 0);
            due("wears 3", x.wears(1023, g), 3);
            due("wears 1", x.wears(1 << 2 * g, g), 1);
        }
        ForeheadMarks y = TestKit.with("marks 2;");
        due("the row of nobody", y.left(0), 0);
        due("no second one", y.left(1), NONE);
    }

    /** "The ROUND is one more (999 at most)". */
    private static void lastRound() {
        ForeheadMarks x = Probe.atRound("marks 2;guest a wears 1;", new int[] {0, 1}, 998);
        due("round", x.round(), 0);
        due("has(4)", x.has(4), 999);
        due("beyond", x.round(), NONE);
        due("beyond", x.chance(1), NONE);
        due("refused", x.status(3), 2);
        due("says goes on", x.says(0), 0);
        due("has(4)", x.has(4), 999);
        due("one round in the question", TestKit.ask(x, "total round"), 999);
        for (int n = 1; n <= 20; n++) {
            ForeheadMarks y = Probe.atRound("marks 2;guest a wears 1;", new int[] {1}, 999 - n);
            due("beyond by one", n < 20 ? y.chance(n + 1) : NONE, NONE);
            due("up to 999", y.chance(n), 0);
            due("has(4)", y.has(4), 999);
        }
    }

    /** "the last 40 are told"; "The last 20 can be undone". */
    private static void fortyAndTwenty() {
        ForeheadMarks x = TestKit.with("marks 2;guest a wears 1;fact a=1;");
        due("empty", x.has(8), 0);
        due("empty", x.kept(0, 0), NONE);
        for (int k = 1; k <= 45; k++) {
            if (k <= 2) {
                x.tell(0);
            } else {
                x.says(0);
            }
            due("kept", x.has(8), Math.min(k, 40));
            due("acts", x.has(10), Math.min(k, 20));
            due("oldest", x.kept(0, 0), k <= 41 ? 2 : 1);
            due("newest", x.kept(Math.min(k, 40) - 1, 0), k <= 2 ? 2 : 1);
            due("beyond", x.kept(Math.min(k, 40), 0), NONE);
        }
        for (int k = 1; k <= 20; k++) {
            due("undo", x.undo(), true);
            due("acts", x.has(10), 20 - k);
            due("kept", x.has(8), Math.min(45 - k, 40));
            due("oldest", x.kept(0, 0), 45 - k <= 41 ? 2 : 1);
        }
        due("undo", x.undo(), false);
        due("kept", x.has(8), 25);
        fullByChance();
        undoneRows();
    }

    private static void due(String call, boolean got, boolean want) {
        TestKit.due(call, got, want);
    }

    /** Each of the most ROWS is LEFT again. */
    private static void undoneRows() {
        ForeheadMarks x = TestKit.with("marks 4;" + FIVE + "fact a=0;fact e=0;");
        for (int k = 0; k < 20; k++) {
            due("tell", x.tell(k % 2), 1);
            due("left", x.has(5), k == 0 ? 256 : 64);
        }
        for (int k = 19; k >= 0; k--) {
            due("undo", x.undo(), true);
            due("left", x.has(5), k == 0 ? 1024 : k == 1 ? 256 : 64);
        }
        for (int row = 0; row < 1024; row++) {
            due("left", x.left(row), row);
        }
    }

    /** 20 ACTS of 20 ROUNDS each: all can be undone, each with the 40 that were told ahead of it. */
    private static void fullByChance() {
        ForeheadMarks x = TestKit.with("marks 2;guest a wears 1;guest b wears 0;fact a=1;fact b=1;");
        for (int k = 0; k < 40; k++) {
            x.tell(k % 2);
        }
        for (int k = 1; k <= 20; k++) {
            due("chance", x.chance(20), 0);
            due("who knew", x.kept(39, 2), 3);
            due("left behind it", x.kept(39, 3), 1);
        }
        due("rounds", x.has(4), 400);
        for (int k = 19; k >= 0; k--) {
            due("undo", x.undo(), true);
            due("rounds", x.has(4), 20 * k);
            due("kept", x.has(8), 40);
            due("oldest", x.kept(0, 0), k >= 2 ? 0 : 2);
            due("newest", x.kept(39, 0), k >= 1 ? 0 : 2);
            due("of the older ones", x.kept(19, 1), k == 0 ? 1 : k == 1 ? 1 : 0);
            due("who knew", x.kept(39, 2), k >= 1 ? 3 : 0);
            due("who knew", x.kept(0, 2), k >= 2 ? 3 : 1);
            due("left behind it", x.kept(0, 3), k >= 1 ? 1 : 2);
        }
        due("no more", x.undo(), false);
    }

    /** "x (the seed) becomes (1103515245 x + 12345) mod 2 to the 31; floor(x / 64) mod m". */
    private static void wrappedDraws() {
        long[] seeds = {0, 1, 2, 63, 64, 65535, 65536, 1L << 30, (1L << 30) - 1, (1L << 31) - 1, (1L << 31) - 2, 1103515245, 12345, 1945666531};
        ForeheadMarks x = TestKit.with("marks 4;" + FIVE);
        ForeheadMarks y = TestKit.with("marks 3;guest a wears 0;guest b wears 0;guest c wears 0;rule sum<4;");
        for (long seed : seeds) {
            due("seed", x.seed((int) seed), true);
            due("seed", y.seed((int) seed), true);
            long s = seed;
            for (int k = 0; k < 5; k++) {
                s = next(s);
                due("deal by " + seed, x.deal(), s / 64 % 1024);
                due("deal by " + seed, y.deal(), y.left((int) (s / 64 % y.has(6))));
            }
        }
    }

    /** "a DRAW of 100: below slip, if there are GUESTS, a DRAW of these": how many DRAWS each ACT takes, the seed that stays. */
    private static void countedDraws() {
        String[] texts = {"marks 2;", "marks 2;slip 100;", "marks 2;guest a wears 0;", "marks 2;guest a wears 0;slip 100;",
            "marks 4;" + FIVE + "slip 100;"};
        int[] draws = {1, 1, 1, 2, 2};
        for (int k = 0; k < texts.length; k++) {
            for (int n = 1; n <= 20; n++) {
                ForeheadMarks x = TestKit.with(texts[k]);
                x.seed(n);
                due("chance", x.chance(n), draws[k] == 2 ? n : 0);
                dueNextDraw(x, n, n * draws[k]);
            }
        }
        ForeheadMarks x = TestKit.with("marks 2;");
        due("the one row", x.deal(), 0);
        dueNextDraw(x, 1, 1);
        ForeheadMarks y = TestKit.with("marks 2;slip 100;guest a wears 0;");
        y.round();
        y.says(0);
        y.wear(0, 1);
        due("undo", y.undo(), true);
        dueNextDraw(y, 1, 0);
        ForeheadMarks z = TestKit.with("marks 2;slip 100;guest a wears 0;");
        z.chance(3);
        z.deal();
        due("undo", z.undo(), true);
        due("undo", z.undo(), true);
        dueNextDraw(z, 1, 7);
    }

    /** The next DRAW is of 1024 in another parlour, behind so many by that seed. */
    private static void dueNextDraw(ForeheadMarks x, long seed, int draws) {
        long s = seed;
        for (int k = 0; k <= draws; k++) {
            s = next(s);
        }
        TestKit.put(x, "marks 4;" + FIVE);
        due("parlour", x.parlour(), 6);
        due("deal behind " + draws + " draws", x.deal(), s / 64 % 1024);
    }

    // ---- III. AHEAD, DEEP, HINTS, ANEW, HEARD

    /** "AHEAD are ROUNDS as they come from now on without DRAWS (20 at most, whatever ROUND it is)". */
    private static void twentyAhead() {
        for (int i = 17; i <= 22; i++) {
            ForeheadMarks x = TestKit.with(Texts.chain(i));
            int sooner = i % 2 == 0 ? 1 : 0;
            dueAhead("row " + i, x, sooner, i);
            ForeheadMarks y = Probe.atRound(Texts.chain(i), Probe.leftOf(x), 999);
            due("at the last round", y.has(4), 999);
            dueAhead("row " + i + " at ROUND 999", y, sooner, i);
            x.round();
            dueAhead("row " + i + " behind a ROUND", x, sooner, i - 1);
        }
    }

    /** One KNOWS behind so many ROUNDS, the others behind one more, and then it rests. */
    private static void dueAhead(String call, ForeheadMarks x, int sooner, int rounds) {
        for (int g = 0; g < 4; g++) {
            int n = g == sooner ? rounds : rounds + 1;
            due("learns " + call, x.learns(g), n <= 20 ? n : NONE);
            for (int k = 0; k <= 20; k++) {
                due("later " + call, x.later(g, k), k >= n ? 1 : 0);
            }
            due("later beyond " + call, x.later(g, 21), NONE);
        }
        due("rests " + call, x.rests(), rounds + 1 <= 20 ? rounds + 1 : NONE);
    }

    /** MARKS of 17 ROWS on a way of mixing up, and for each how far it is from a ROW where not all KNOW (99: for ever). */
    private static final String[] WAY = {"01000", "21112", "00112", "32020", "20223", "22000", "01102", "20122", "10332", "10233",
        "13000", "02332", "30003", "02230", "23320", "21213", "33230"};
    private static final int[] FAR = {2, 4, 5, 0, 7, 1, 3, 6, 9, 8, 2, 10, 99, 11, 0, 5, 12};

    /** "DEEP is how deep it is known: 0 if not all GUESTS KNOW; else 1; 2 .. and so on (9 at most)". */
    private static void nineDeep() {
        StringBuilder rule = new StringBuilder("rule ");
        for (String row : WAY) {
            rule.append(rule.length() > 5 ? " or " : "").append("A=").append(numberOf(row));
        }
        String one = rule.toString().replace("A", "a+4*b+16*c+64*d+256*e");
        for (int k = 0; k < WAY.length; k++) {
            StringBuilder text = new StringBuilder("marks 4;");
            for (int g = 0; g < 5; g++) {
                text.append("guest ").append((char) ('a' + g)).append(" wears ").append(WAY[k].charAt(g)).append(";");
            }
            text.append("blind b to c;blind c to a;blind c to b;blind d to c;blind d to e;blind e to a;blind e to d;");
            ForeheadMarks x = TestKit.with(text + one + ";");
            due("rows of the way", x.has(6), 17);
            due("deep " + WAY[k], x.deep(), Math.min(FAR[k], 9));
            due("deep again " + WAY[k], x.deep(), Math.min(FAR[k], 9));
            due("all know " + WAY[k], x.has(7) == 5 ? 1 : 0, FAR[k] > 0 ? 1 : 0);
        }
        due("without guests", TestKit.with("marks 3;").deep(), 9);
    }

    private static int numberOf(String row) {
        int n = 0;
        for (int g = 4; g >= 0; g--) {
            n = 4 * n + row.charAt(g) - '0';
        }
        return n;
    }

    /** "HINTS for a GUEST are the fewest FACTS which, all SAID now at once, let him KNOW; of like ones the least bits". */
    private static void allEightHints() {
        StringBuilder facts = new StringBuilder();
        for (int k = 0; k < 8; k++) {
            facts.append("fact not[a=1 and b+4*c=").append(k).append("];");
        }
        String head = "marks 4;guest a wears 0;guest b wears 0;guest c wears 0;blind a to b;blind a to c;blind b to a;"
            + "rule a=0 and b=0 and c=0 or a=1 and b+4*c<";
        for (int rows = 0; rows <= 8; rows++) {
            ForeheadMarks x = TestKit.with(head + rows + ";" + facts);
            due("each row needs a fact of its own", x.hints(0), (1 << rows) - 1);
            due("c sees a", x.secret(0, 2), NONE);
        }
        ForeheadMarks y = TestKit.with(head + "9;" + facts);
        due("all eight are not enough", y.hints(0), NONE);
        due("nor for a secret", y.secret(0, 1), NONE);
        ForeheadMarks z = TestKit.with(head + "8;" + facts);
        due("b needs those of his own row", z.hints(1), 2 + 4 + 8);
        due("a secret of b", z.secret(1, 0), 2 + 4 + 8);
        due("without facts", TestKit.with("marks 2;guest a wears 0;").hints(0), NONE);
        due("who knows needs none", TestKit.with("marks 2;guest a wears 0;rule a=0;").hints(0), 0);
        due("least bits", TestKit.with("marks 2;guest a wears 0;" + "fact a=0;".repeat(8)).hints(0), 1);
        due("the last alone", TestKit.with("marks 2;guest a wears 0;" + "fact all;".repeat(7) + "fact a=1;").hints(0), 128);
    }

    /** "A SECRET .. likewise, so that he KNOWS, and that one does not": the fewest that do both, more than HINTS at times. */
    private static void secretOfMore() {
        String head = "marks 4;guest a wears 0;guest b wears 0;blind a to b;blind b to a;";
        ForeheadMarks x = TestKit.with(head + "fact a=0 and b=0;fact a<2;fact a=0 or a>1;fact a<2;");
        due("one tells both", x.hints(0), 1);
        due("two tell a alone", x.secret(0, 1), 2 + 4);
        due("b learns by the first alone", x.hints(1), 1);
        due("no secret of b", x.secret(1, 0), NONE);
        x.tell(1);
        due("one more", x.secret(0, 1), 4);
        x.tell(2);
        due("nothing more", x.secret(0, 1), 0);
        x.tell(0);
        due("b knows, too", x.secret(0, 1), NONE);
        ForeheadMarks y = TestKit.with(head + "fact a=0;fact b=0;");
        due("a", y.secret(0, 1), 1);
        due("b", y.secret(1, 0), 2);
    }

    /** "a SPEAKER .. leaves fewest ROWS; of like ones the first". */
    private static void likeSpeakers() {
        // nobody ever knows: all leave all
        ForeheadMarks x = TestKit.with("marks 2;guest a wears 0;guest b wears 0;guest c wears 1;");
        due("speaker", x.speaker(0), 0);
        due("left", x.speaker(1), 8);
        // a, who is blind, tells nothing; b and c both leave two of four
        ForeheadMarks y = TestKit.with("marks 2;guest a wears 0;guest b wears 0;guest c wears 0;blind a to b;blind a to c;rule b=0 or c=0;rule a=0 or b=c;");
        due("rows", y.has(6), 4);
        due("speaker", y.speaker(0), 1);
        due("left", y.speaker(1), 2);
        due("all of one", TestKit.with("marks 2;guest a wears 1;").speaker(1), 2);
        due("one of one", TestKit.with("marks 2;guest a wears 1;rule a=1;").speaker(1), 1);
    }

    /** "The SLOWEST .. (20 at most; not one in which he does not KNOW behind 20)"; "ODDS for n ROUNDS". */
    private static void twentyAnew() {
        ForeheadMarks x = TestKit.with(Texts.chain(3));
        int[] row = {18, 19, 19, 19};
        int[] rounds = {19, 20, 20, 20};
        for (int g = 0; g < 4; g++) {
            due("slowest row", x.slowest(g, 0), Texts.chainRow(row[g]));
            due("slowest", x.slowest(g, 1), rounds[g]);
        }
        int[][] odds = {{0, 2, 2, 4}, {1, 1, 3, 3}, {0, 1, 2, 3}};
        for (int g = 0; g < 3; g++) {
            for (int n = 0; n < 4; n++) {
                due("odds of " + g + " for " + n, x.odds(g, n), odds[g][n]);
            }
        }
        due("odds for 20", x.odds(0, 20), 20);
        due("odds for 20", x.odds(1, 20), 21);
        due("odds for 19", x.odds(1, 19), 19);
        due("odds for 20", x.odds(2, 20), 20);
        due("odds for 21", x.odds(1, 21), NONE);
    }

    /** "HEARD are rows of a number of ROUNDS (0 .. 15)"; "TELLING is the number of ROUNDS (0 .. 15), the GUEST". */
    private static void fifteenHeard() {
        ForeheadMarks x = TestKit.with(Texts.chain(3));
        dueTelling(x, 15, 0, 16);
        TestKit.put(x, 16, 0, 0);
        due("16 rounds", x.hear(), NONE);
        TestKit.put(x, 15, 0, 0);
        due("15 rounds", x.hear(), 1);
        due("fits", x.fits(NONE), 16);
        due("fits", x.fits(0), Texts.chainRow(16));
        // behind 16 ROUNDS b knows in one of these, behind 15 nobody in any
        dueTelling(x, 0, 0, 16);
        TestKit.put(x, 15, 0, 1);
        due("15 rounds", x.hear(), 1);
        due("fits", x.fits(NONE), 16);
        due("fits", x.fits(15), Texts.chainRow(15));
        due("fits", x.fits(16), NONE);
        TestKit.put(x, 0, 1, 1);
        due("0 rounds", x.hear(), 1);
        due("fits", x.fits(NONE), 1);
        due("fits", x.fits(0), 0);
        sixteenRows(x);
    }

    /** "of like ones the first, ROUND by ROUND, GUEST by GUEST". */
    private static void likeTellings() {
        // b knows at once in two of four, a, who is blind, behind a ROUND in the two others
        ForeheadMarks x = TestKit.with("marks 3;guest a wears 0;guest b wears 0;blind a to b;rule a=0 and b<2 or a=1 and b=1 or a=2 and b=0;");
        int[][] odds = {{0, 2}, {2, 2}};
        for (int g = 0; g < 2; g++) {
            for (int n = 0; n < 2; n++) {
                due("odds", x.odds(g, n), odds[g][n]);
            }
        }
        dueTelling(x, 0, 1, 2);
        // a ROUND sooner for the second, as many for both in the next one
        ForeheadMarks y = TestKit.with("marks 2;guest a wears 1;guest b wears 1;rule sum>0;");
        dueTelling(y, 0, 0, 2);
        // one ROW is left: nothing tells it
        dueTelling(TestKit.with("marks 2;guest a wears 1;rule a=1;"), 0, 0, 1);
    }

    private static void dueTelling(ForeheadMarks x, int rounds, int guest, int left) {
        due("tells(0)", x.tells(0), rounds);
        due("tells(1)", x.tells(1), guest);
        due("tells(2)", x.tells(2), left);
    }

    /** "1 to 16 rows of three bytes": each of sixteen counts, the last too. */
    private static void sixteenRows(ForeheadMarks x) {
        byte[] rows = new byte[48];
        for (int k = 0; k < 16; k++) {
            for (int at = 0; at < 16; at++) {
                rows[3 * at] = (byte) (at == k ? 15 : 14);
                rows[3 * at + 1] = 0;
                rows[3 * at + 2] = (byte) (at == k ? 1 : 0);
            }
            // a knows behind 15 ROUNDS, not behind 14: the ROWS of number 14 and 15 along the way
            TestKit.put(x, rows);
            due("sixteen rows", x.hear(), 16);
            due("heard", x.has(9), 16);
            due("fits", x.fits(NONE), 2);
            due("fits", x.fits(0), Texts.chainRow(14));
            due("fits", x.fits(1), Texts.chainRow(15));
        }
    }

    // ---- IV. QUESTIONS

    /** "total SUM (of all together, not held)", "0 without GUESTS". */
    private static void questions() {
        ForeheadMarks x = TestKit.with("marks 4;" + FIVE);
        due("not held", TestKit.ask(x, "total 9999*9999"), 5000000);
        due("not held", TestKit.ask(x, "total 0-9999*9999"), -5000000);
        due("held", TestKit.ask(x, "most 9999*9999"), 1000000);
        due("held", TestKit.ask(x, "least 0-9999*9999"), -1000000);
        due("all below 0", TestKit.ask(x, "most number-9"), -5);
        due("all above 0", TestKit.ask(x, "least number+9"), 9);
        due("for none", TestKit.ask(x, "first number>4"), NONE);
        due("for none", TestKit.ask(x, "last number<0"), NONE);
        due("for none", TestKit.ask(x, "often number>4"), 0);
        due("for the last alone", TestKit.ask(x, "first number>3"), 4);
        due("for the first alone", TestKit.ask(x, "last number<1"), 0);
        due("sees himself", TestKit.ask(x, "often sees number=1"), 0);
        due("sees 4", TestKit.ask(x, "often sees 4=1"), 4);
        due("sees 5", TestKit.ask(x, "often sees 5=1"), 0);
        due("sees below 0", TestKit.ask(x, "often sees (0-1)=1"), 0);
        due("sees far below 0", TestKit.ask(x, "often sees (0-9999*9999)=1"), 0);
        due("could 3", TestKit.ask(x, "often could 3=1"), 5);
        due("could 4", TestKit.ask(x, "often could 4=1"), 0);
        due("could below 0", TestKit.ask(x, "often could (0-1)=1"), 0);
        due("rows", TestKit.ask(x, "total rows"), 20);
        for (int n = 5; n <= 64; n++) {
            due("sees nobody", TestKit.ask(x, "often sees " + n + "=0 and sees (0-" + n + ")=0"), 5);
            due("could not wear it", TestKit.ask(x, "often could " + n + "=0 and could (0-" + n + ")=0"), 5);
        }
        ForeheadMarks y = TestKit.with("marks 4;");
        String[] texts = {"first all", "last all", "often all", "total 7", "most 7", "least 0-7"};
        for (int k = 0; k < texts.length; k++) {
            due("without guests " + texts[k], TestKit.ask(y, texts[k]), k < 2 ? NONE : 0);
        }
    }

    /** "AN IMAGE: ROUND (two bytes, the higher first); the MARK of each GUEST; .. eight by eight, a byte; last a byte". */
    private static void images() {
        for (int round : new int[] {0, 1, 255, 256, 257, 511, 512, 998, 999}) {
            ForeheadMarks x = Probe.atRound("marks 4;guest a wears 2;", new int[] {0, 2, 3}, round);
            byte[] want = Probe.sealed(round / 256, round % 256, 2, 0b1101);
            due("image", x.image(), want.length);
            for (int k = 0; k < want.length; k++) {
                due("octet " + k, x.octet(k), want[k] & 255);
            }
            due("behind it", x.octet(want.length), NONE);
        }
        due("ahead of a parlour", new ForeheadMarks().image(), 3);
        for (int marks = 2; marks <= 4; marks++) {
            String text = "marks " + marks + ";";
            int rows = 1;
            for (int guests = 0; guests <= 5; guests++) {
                ForeheadMarks x = TestKit.with(text);
                int size = 2 + guests + (rows + 7) / 8 + 1;
                due("rows", x.has(6), rows);
                due("image", x.image(), size);
                due("the last bits", x.octet(size - 2), rows % 8 == 0 ? 255 : (1 << rows % 8) - 1);
                due("on", Probe.onWith(x, Probe.imageOf(x)), true);
                due("rows", x.has(5), rows);
                text += "guest " + (char) ('a' + guests) + " wears " + (marks - 1) + ";";
                rows *= marks;
            }
        }
    }

    /** One after the other, as many as an object takes: nothing of an earlier one is in the way. */
    private static void manyQuestions() {
        ForeheadMarks x = TestKit.with("marks 2;guest a wears 1;");
        String ten = "total mark" + "+mark*mark".repeat(9);
        for (int k = 0; k < 40; k++) {
            due("question " + k, TestKit.ask(x, ten), 10);
            due("question " + k, TestKit.ask(x, "first all and not mark=0"), 0);
        }
        String longest = "total 1" + "+1".repeat(796);
        due("of the whole tape", TestKit.ask(x, longest + " ".repeat(1600 - longest.length())), 797);
        due("behind it", TestKit.ask(x, ten), 10);
    }

    public static void main(String[] args) {
        sixtyStatements();
        marksFirst();
        guestsFive();
        blindPairs();
        rulesFourFactsEight();
        slipHundred();
        fourDigits();
        withoutGuests();
        quotients();
        heldSums();
        namesOfSix();
        lettersAlone();
        toldAhead();
        blanks();
        sixOpen();
        afterFaults();
        manyParlours();
        rowNumbers();
        lastRound();
        fortyAndTwenty();
        wrappedDraws();
        countedDraws();
        twentyAhead();
        nineDeep();
        allEightHints();
        secretOfMore();
        likeSpeakers();
        twentyAnew();
        fifteenHeard();
        likeTellings();
        questions();
        manyQuestions();
        images();
        TestKit.finish();
    }
}
