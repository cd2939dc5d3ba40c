/** Texts of parlours and questions with the FAULT that is due; texts of larger parlours that several tests use. */
final class Texts {
    static final String HEAD = "marks 3;guest a wears 1;guest b wears 2;";

    private Texts() {
    }

    /** What stands behind the bar is the place: the text is fed without the bar. */
    static void bad(int fault, String barred) {
        ForeheadMarks x = new ForeheadMarks();
        badIn(x, fault, barred);
        TestKit.due("status(1) of " + barred, x.status(1), 1);
        TestKit.due("has(0) of " + barred, x.has(0), 0);
    }

    static void badIn(ForeheadMarks x, int fault, String barred) {
        int place = barred.indexOf('|');
        TestKit.put(x, barred.substring(0, place) + barred.substring(place + 1));
        TestKit.due("parlour() of " + barred, x.parlour(), -1);
        TestKit.due("fault(0) of " + barred, x.fault(0), fault);
        TestKit.due("fault(1) of " + barred, x.fault(1), place);
    }

    static void good(int statements, String text) {
        ForeheadMarks x = new ForeheadMarks();
        goodIn(x, statements, text);
        TestKit.due("status(1) of " + text, x.status(1), 0);
    }

    static void goodIn(ForeheadMarks x, int statements, String text) {
        TestKit.put(x, text);
        TestKit.due("parlour() of " + text, x.parlour(), statements);
        TestKit.due("fault(0) of " + text, x.fault(0), 0);
        TestKit.due("fault(1) of " + text, x.fault(1), -1);
    }

    static void badQuestion(int fault, String barred) {
        ForeheadMarks x = TestKit.with(HEAD);
        badQuestionIn(x, fault, barred);
        TestKit.due("status(1) of " + barred, x.status(1), 0);
    }

    static void badQuestionIn(ForeheadMarks x, int fault, String barred) {
        int place = barred.indexOf('|');
        String text = barred.substring(0, place) + barred.substring(place + 1);
        TestKit.due("ask() of " + barred, TestKit.ask(x, text), ForeheadMarks.NOTHING);
        TestKit.due("fault(0) of " + barred, x.fault(0), fault);
        TestKit.due("fault(1) of " + barred, x.fault(1), place);
    }

    static void goodQuestion(long answer, String text) {
        goodQuestionIn(TestKit.with(HEAD), answer, text);
    }

    static void goodQuestionIn(ForeheadMarks x, long answer, String text) {
        TestKit.due("ask() of " + text, TestKit.ask(x, text), answer);
        TestKit.due("fault(0) of " + text, x.fault(0), 0);
        TestKit.due("fault(1) of " + text, x.fault(1), -1);
    }

    /**
     * 32 ROWS. a and d tell q, b and c tell p; q is p or p + 1, but where both are above 13 they are any. a sees p alone, b
     * sees q alone: so of the ROWS 0 0, 0 1, 1 1, 1 2 .. 13 14 each falls out a ROUND behind the one ahead of it. In the one of
     * number i along this way one of a and b KNOWS behind i ROUNDS (b if i is even), all others behind i + 1.
     */
    static String chain(int p, int q) {
        return "marks 4;guest a wears " + q % 4 + ";guest b wears " + p % 4 + ";guest c wears " + p / 4 + ";guest d wears " + q / 4
            + ";blind a to d;blind b to c;blind c to a;blind c to b;blind c to d;blind d to a;blind d to b;blind d to c;"
            + "rule a+4*d=b+4*c or a+4*d=b+4*c+1 or a+4*d>13 and b+4*c>13;";
    }

    /** The ROW of number i along the way of the chain. */
    static String chain(int i) {
        return chain(i / 2, (i + 1) / 2);
    }

    static int chainRow(int i) {
        int p = i / 2;
        int q = (i + 1) / 2;
        return q % 4 + 4 * (p % 4) + 16 * (p / 4) + 64 * (q / 4);
    }
}
