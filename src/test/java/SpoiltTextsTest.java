import java.util.List;
import java.util.Random;

/** Texts of parlours and questions, spoilt here and there: the FAULT and its place compared with a second reader of the grammar. */
public final class SpoiltTextsTest {
    private static final String[] PIECES = ("marks guest wears blind to rule fact slip sum top low kinds count number mark rows knows round"
        + " sees could or and not all min max first last often total most least a b abcdef abcdefg zz 0 1 2 3 4 5 9 100 101 9999 10000 00001"
        + " ( ) [ ] , ; + - * / < > = ((((((( [[[[[[[ ? _ A min( max(1, notnot 1a a1 \t \n \u0000 \u00ff").split(" ");

    private static final String[] STATEMENTS = {"slip 1;", "rule all;", "fact all;", "guest x wears 0;", "blind a to b;", "marks 2;", ";"};

    private static final String[] OPENING = {"[", "(", "not ", "count ", "sees ", "could ", "[[[", "(((", "min(", "not not not ", "[[[[[[", "(((((("};

    private static final String[] PARLOURS = {
        "marks 3;guest a wears 1;guest b wears 2;blind a to b;blind b to a;rule a<b and not[a=0]or sum>0;fact count(1)+count 2=min(1,2);slip 40;",
        "marks 4;guest abcdef wears 3;guest zz wears 0;guest q wears 1;fact max(abcdef,zz)-top*low/kinds=((0));rule all;blind q to zz;slip 0;slip 100;",
        "marks 2;guest a wears 0;guest b wears 1;guest c wears 0;guest d wears 1;guest e wears 0;rule not not not[a=0 or b=0]or a+b>0;"
            + "rule all;rule all;rule all;fact all;fact all;fact all;fact all;fact all;fact all;fact all;fact(((((a)))))=count count count b;",
        "marks 2;" + "slip 1;".repeat(57) + "guest a wears 1;rule a=1;"};

    private static final String[] QUESTIONS = {
        "first mark=0 and not[sees number=1 or could(1)>0]or all", "total rows*knows+round/min(1,number)-max(mark,(2))",
        "often not not[[((number))=count]]", "least could could sees sees number", "most 9999*number", "last[[[[[[mark<1]]]]]]"};

    private final Random random = new Random(5);

    private String spoilt(String text) {
        StringBuilder s = new StringBuilder(text);
        int changes = 1 + random.nextInt(2);
        for (int k = 0; k < changes; k++) {
            int at = random.nextInt(s.length() + 1);
            int kind = random.nextInt(7);
            if (kind == 0) {
                s.insert(at, PIECES[random.nextInt(PIECES.length)]);
            } else if (kind == 1) {
                s.insert(at, " " + PIECES[random.nextInt(PIECES.length)] + " ");
            } else if (kind == 2) {
                s.delete(at, Math.min(s.length(), at + 1 + random.nextInt(3)));
            } else if (kind == 3 && at < s.length()) {
                s.setCharAt(at, (char) random.nextInt(256));
            } else if (kind == 4) {
                s.insert(behindOneOf(s, at, ";"), STATEMENTS[random.nextInt(STATEMENTS.length)]);
            } else if (kind == 5) {
                s.insert(behindOneOf(s, at, "[(=<>+-*/, "), OPENING[random.nextInt(OPENING.length)]);
            } else {
                changePiece(s, at);
            }
        }
        if (random.nextInt(9) == 0) {
            s.setLength(random.nextInt(s.length() + 1));
        }
        return s.toString();
    }

    private static int behindOneOf(StringBuilder s, int from, String signs) {
        int at = from;
        while (at > 0 && signs.indexOf(s.charAt(at - 1)) < 0) {
            at--;
        }
        return at;
    }

    /** Another word or number in the place of the one that stands there. */
    private void changePiece(StringBuilder s, int at) {
        int from = at;
        while (from > 0 && Character.isLetterOrDigit(s.charAt(from - 1))) {
            from--;
        }
        int to = at;
        while (to < s.length() && Character.isLetterOrDigit(s.charAt(to))) {
            to++;
        }
        s.replace(from, to, PIECES[random.nextInt(PIECES.length)]);
    }

    private void parlours(int many) {
        int[] seen = new int[7];
        ForeheadMarks x = new ForeheadMarks();
        for (int k = 0; k < many; k++) {
            String text = spoilt(PARLOURS[k % PARLOURS.length]);
            if (text.length() > 1600) {
                continue;
            }
            SecondReader want = SecondReader.ofParlour(text);
            TestKit.put(x, text);
            int got = x.parlour();
            seen[Math.max(0, x.fault(0))]++;
            if (want.fault == 0 && x.fault(0) == 6) {
                // whether a RULE holds is for other tests
                TestKit.due("place of 6 in " + text, x.fault(1), text.length());
                continue;
            }
            TestKit.due("parlour() of " + text, got, want.fault == 0 ? want.statements : -1);
            TestKit.due("fault(0) of " + text, x.fault(0), want.fault);
            TestKit.due("fault(1) of " + text, x.fault(1), want.place);
        }
        for (int f : List.of(0, 1, 2, 3, 4, 5)) {
            TestKit.due("texts with FAULT " + f, seen[f] > 20, true);
        }
    }

    private void questions(int many) {
        int[] seen = new int[7];
        ForeheadMarks x = TestKit.with(PARLOURS[0]);
        for (int k = 0; k < many; k++) {
            String text = spoilt(QUESTIONS[k % QUESTIONS.length]);
            SecondReader want = SecondReader.ofQuestion(text);
            long got = TestKit.ask(x, text);
            seen[Math.max(0, x.fault(0))]++;
            TestKit.due("ask() of " + text, got == ForeheadMarks.NOTHING, want.fault != 0);
            TestKit.due("fault(0) of " + text, x.fault(0), want.fault);
            TestKit.due("fault(1) of " + text, x.fault(1), want.place);
        }
        for (int f : List.of(0, 1, 4)) {
            TestKit.due("questions with FAULT " + f, seen[f] > 20, true);
        }
    }

    public static void main(String[] args) {
        SpoiltTextsTest test = new SpoiltTextsTest();
        test.parlours(20000);
        test.questions(10000);
        TestKit.finish();
    }
}
