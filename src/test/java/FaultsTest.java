/** Texts of parlours and questions, each with the FAULT and the place that are due (promises 4, 5, 35; Terms I, IV). */
public final class FaultsTest {

    private static final String HEAD = "marks 3;guest a wears 1;guest b wears 2;";

    /** What stands behind the bar is the place: the text is fed without the bar. */
    private static void bad(int fault, String barred) {
        int place = barred.indexOf('|');
        String text = barred.substring(0, place) + barred.substring(place + 1);
        ForeheadMarks x = new ForeheadMarks();
        TestKit.put(x, text);
        TestKit.due("parlour() of " + text, x.parlour(), -1);
        TestKit.due("fault(0) of " + text, x.fault(0), fault);
        TestKit.due("fault(1) of " + text, x.fault(1), place);
        TestKit.due("status(1) of " + text, x.status(1), 1);
        TestKit.due("has(0) of " + text, x.has(0), 0);
    }

    private static void good(int statements, String text) {
        ForeheadMarks x = new ForeheadMarks();
        TestKit.put(x, text);
        TestKit.due("parlour() of " + text, x.parlour(), statements);
        TestKit.due("fault(0) of " + text, x.fault(0), 0);
        TestKit.due("fault(1) of " + text, x.fault(1), -1);
        TestKit.due("status(1) of " + text, x.status(1), 0);
    }

    private static void badQuestion(int fault, String barred) {
        int place = barred.indexOf('|');
        String text = barred.substring(0, place) + barred.substring(place + 1);
        ForeheadMarks x = TestKit.with(HEAD);
        TestKit.due("ask() of " + text, TestKit.ask(x, text), ForeheadMarks.NOTHING);
        TestKit.due("fault(0) of " + text, x.fault(0), fault);
        TestKit.due("fault(1) of " + text, x.fault(1), place);
        TestKit.due("status(1) of " + text, x.status(1), 0);
    }

    private static void goodQuestion(long answer, String text) {
        ForeheadMarks x = TestKit.with(HEAD);
        TestKit.due("ask() of " + text, TestKit.ask(x, text), answer);
        TestKit.due("fault(0) of " + text, x.fault(0), 0);
        TestKit.due("fault(1) of " + text, x.fault(1), -1);
    }

    private static String times(String piece, int n) {
        return piece.repeat(n);
    }

    private static void texts() {
        bad(1, "|");
        bad(1, "  \n |");
        bad(1, "|x");
        bad(1, "|;");
        bad(1, "|Marks 2;");
        bad(1, "|marksx 2;");
        bad(1, "|mark 2;");
        bad(1, "|mar");
        bad(1, "marks|");
        bad(1, "marks |;");
        bad(1, "marks |two;");
        bad(1, "marks |\t2;");
        bad(1, "marks 2|");
        bad(1, "marks 2  |");
        bad(1, "marks 2 |2;");
        bad(1, "marks 2;|;");
        bad(1, "marks 2;|marks 2;");
        bad(1, "|guest a wears 1;");
        bad(1, "|slip 1;");
        bad(1, "marks 2;|sum;");
        bad(1, "marks 2;|guests a wears 1;");
        bad(1, "marks 2;|a;");
        bad(1, "marks 2;|1;");
        bad(1, "marks |" + (char) 200 + "2;");
        good(1, "marks 2;");
        good(1, " \n marks\n2 \n;\n ");
        good(1, "marks 0002;");
    }

    private static void blanksBetween() {
        bad(1, "marks|2;");
        bad(1, "marks 2;guest a wears|1;");
        bad(1, "marks 2;guest a|1 wears 1;");
        bad(1, "marks 2;guest a wears 1|x;");
        bad(1, "marks 2;slip|5;");
        bad(1, "marks 2;rule 1=1|and 2=2;");
        bad(1, "marks 2;rule 1=1|or 2=2;");
        bad(1, "marks 2;rule not|1=2;");
        bad(1, "marks 2;rule count|1=0;");
        bad(1, "marks 2;rule|1=1;");
        bad(1, "marks 2;rule 1=1 and|2=2;");
        bad(1, "marks 2;|guesta wears 1;");
        good(2, "marks 2;rule[1=1]and[2=2]or not[3=3];");
        good(2, "marks 2;rule(1)=1 and count(1)=0;");
    }

    private static void numbers() {
        bad(2, "marks |1;");
        bad(2, "marks |0;");
        bad(2, "marks |5;");
        bad(2, "marks |9999;");
        bad(1, "marks 1234|5;");
        bad(1, "marks 0000|2;");
        bad(2, "marks |5x");
        bad(2, "marks 2;guest a wears |2;");
        bad(2, "marks 4;guest a wears |4;");
        bad(1, "marks 4;guest a wears |;");
        bad(1, "marks 4;guest a wears |b;");
        bad(2, "marks 2;slip |101;");
        bad(1, "marks 2;slip 1000|0;");
        bad(1, "marks 2;slip 0000|0;");
        bad(1, "marks 2;slip |-1;");
        bad(1, "marks 2;rule 1234|5=1;");
        bad(1, "marks 2;rule 1=0000|1;");
        good(2, "marks 4;guest a wears 3;");
        good(3, "marks 2;slip 100;slip 0;");
        good(2, "marks 2;rule 9999=9999;");
    }

    private static void names() {
        bad(1, "marks 2;guest |;");
        bad(1, "marks 2;guest |1 wears 1;");
        bad(1, "marks 2;guest |A wears 1;");
        bad(1, "marks 2;guest abcdef|g wears 1;");
        bad(1, "marks 2;guest number|s wears 1;");
        for (String own : ("marks guest wears blind to rule fact slip sum top low kinds count number mark rows knows"
            + " round sees could or and not all min max").split(" ")) {
            bad(1, "marks 2;guest |" + own + " wears 1;");
            bad(1, HEAD + "blind |" + own + " to a;");
            bad(1, HEAD + "blind a to |" + own + ";");
        }
        for (String free : "first last often total most least abcdef z markss tos".split(" ")) {
            good(2, "marks 2;guest " + free + " wears 1;");
        }
        bad(1, "marks 2;guest a |wear 1;");
        bad(1, "marks 2;guest a |to 1;");
        bad(1, "marks 2;guest a |;");
        bad(1, "marks 2;guest a|");
        bad(3, HEAD + "guest |a wears 0;");
        bad(3, HEAD + "guest |b x");
        bad(3, HEAD + "blind |c to a;");
        bad(3, HEAD + "blind |c x");
        bad(3, HEAD + "blind a to |c;");
        bad(3, HEAD + "blind a to |a;");
        bad(3, HEAD + "blind a to b;blind a to |b;");
        bad(1, HEAD + "blind abcdef|g to a;");
        bad(1, HEAD + "blind a to abcdef|g;");
        bad(1, HEAD + "blind a |b;");
        bad(1, HEAD + "blind a to |;");
        bad(3, "marks 2;blind |a to b;guest a wears 1;guest b wears 1;");
        good(5, HEAD + "blind a to b;blind b to a;");
    }

    private static void tests() {
        bad(1, HEAD + "rule |;");
        bad(1, HEAD + "rule |c=1;");
        bad(1, HEAD + "rule |abcdefgh=1;");
        bad(1, HEAD + "rule |number=1;");
        bad(1, HEAD + "rule |sees 1=1;");
        bad(1, HEAD + "rule |mark=1;");
        bad(1, HEAD + "rule |first=1;");
        bad(1, HEAD + "rule a|;");
        bad(1, HEAD + "rule a |b;");
        bad(1, HEAD + "rule a=|;");
        bad(1, HEAD + "rule a=|=1;");
        bad(1, HEAD + "rule a<|=1;");
        bad(1, HEAD + "rule |-1=a;");
        bad(1, HEAD + "rule a=1|=1;");
        bad(1, HEAD + "rule a=1 and |;");
        bad(1, HEAD + "rule a=1 or |or;");
        bad(1, HEAD + "rule a=1 |nor a=1;");
        bad(1, HEAD + "rule a=1 |not a=1;");
        bad(1, HEAD + "rule [a=1|;");
        bad(1, HEAD + "rule [a=1|);");
        bad(1, HEAD + "rule a=1|];");
        bad(1, HEAD + "rule (a|=1);");
        bad(1, HEAD + "rule (a|;");
        bad(1, HEAD + "rule a=|[a=1];");
        bad(1, HEAD + "rule a=|all;");
        bad(1, HEAD + "rule all|=1;");
        bad(1, HEAD + "rule min|=1;");
        bad(1, HEAD + "rule min |a=1;");
        bad(1, HEAD + "rule min(a|)=1;");
        bad(1, HEAD + "rule min(a,b|,a)=1;");
        bad(1, HEAD + "rule max(|,b)=1;");
        bad(1, HEAD + "rule a|%2=1;");
        bad(1, HEAD + "rule count |=1;");
        bad(1, HEAD + "fact a=1|");
        bad(1, HEAD + "fact count 1=count|");
        bad(1, "marks 2;rule |a=1;guest a wears 1;");
        good(4, HEAD + "rule min(a,b)=1 and max ( a , b ) = 2 and a+b=3 and a*2/2-1=0;");
        good(4, HEAD + "fact sum=top or low=kinds and count count 1=0;");
    }

    private static void open() {
        bad(4, HEAD + "rule " + times("(", 6) + "|(a");
        bad(4, HEAD + "rule " + times("[", 6) + "|[a=1");
        bad(4, HEAD + "rule " + times("not ", 6) + "|not a=1");
        bad(4, HEAD + "rule " + times("count ", 6) + "|count 1=1");
        bad(4, HEAD + "rule [not [not (count |(");
        bad(4, HEAD + "rule min(max(min(max(min(max(1,2),1),1),1),1),min(max(min(max(min(max|(1");
        bad(1, HEAD + "rule " + times("not ", 6) + "|and");
        good(4, HEAD + "rule " + times("not ", 6) + "a=1;");
        good(4, HEAD + "rule " + times("(", 6) + "a" + times(")", 6) + "=" + times("(", 6) + "a" + times(")", 6) + ";");
        good(4, HEAD + "rule " + times("[", 6) + "a=1" + times("]", 6) + ";");
        good(4, HEAD + "rule " + times("not ", 6) + "a=1 and " + times("not ", 6) + "a=1;");
        good(4, HEAD + "fact " + times("count ", 6) + "1=" + times("count ", 6) + "1;");
        good(4, HEAD + "fact " + times("count ", 6) + "1+" + times("count ", 6) + "1=0;");
        good(4, HEAD + "fact not not not count count count 1=1 or not not [not [ count 1=2]];");
    }

    private static void many() {
        String five = "marks 2;guest a wears 0;guest b wears 0;guest c wears 0;guest d wears 0;guest e wears 0;";
        good(6, five);
        bad(5, five + "|guest a x");
        bad(5, five + " |guest");
        good(5, "marks 2;" + times("rule all;", 4));
        bad(5, "marks 2;" + times("rule all;", 4) + "|rule;");
        good(9, "marks 2;" + times("fact all;", 8));
        bad(5, "marks 2;" + times("fact all;", 8) + "|fact;");
        bad(1, "marks 2;" + times("fact all;", 8) + "|facts;");
        good(60, "marks 2;" + times("slip 1;", 59));
        good(60, "marks 2;" + times("slip 1;", 59) + " \n");
        bad(5, "marks 2;" + times("slip 1;", 59) + " |slip 1;");
        bad(5, "marks 2;" + times("slip 1;", 59) + "|;");
        bad(5, "marks 2;" + times("slip 1;", 59) + "|" + (char) 255);
        bad(5, "marks 2;" + times("slip 1;", 59) + "|1");
        bad(1, "marks 2;" + times("slip 1;", 58) + "slip 1|");
    }

    private static void rules() {
        bad(6, HEAD + "rule a=2;|");
        bad(6, HEAD + "rule a=1;rule b=1;fact all; |");
        bad(6, "marks 2;rule sum>0;|");
        bad(1, HEAD + "rule a=2;|x");
        good(4, "marks 3;rule sum=2;guest a wears 0;guest b wears 2;");
    }

    private static void questions() {
        badQuestion(1, "|");
        badQuestion(1, " |");
        badQuestion(1, "|x");
        badQuestion(1, "|any all");
        badQuestion(1, "|sum");
        badQuestion(1, "|;");
        badQuestion(1, "first|");
        badQuestion(1, "first |a=1");
        badQuestion(1, "first |sum=1");
        badQuestion(1, "first |count 1=1");
        badQuestion(1, "first |top=1");
        badQuestion(1, "first |unknownword=1");
        badQuestion(1, "first number|");
        badQuestion(1, "total |all");
        badQuestion(1, "total number|=1");
        badQuestion(1, "total number |and");
        badQuestion(1, "total number|;");
        badQuestion(1, "often all|;");
        badQuestion(1, "often all |all");
        badQuestion(1, "total |blind");
        badQuestion(1, "total 1234|5");
        badQuestion(1, "total|5");
        badQuestion(1, "total sees|1");
        badQuestion(1, "most (number|");
        badQuestion(1, "most sees |");
        badQuestion(4, "total " + times("(", 6) + "|(1");
        badQuestion(4, "total " + times("sees ", 6) + "|sees 1");
        badQuestion(4, "total " + times("could ", 6) + "|could 1");
        badQuestion(4, "often " + times("not ", 6) + "|not all");
        badQuestion(4, "often not [not [sees could |(1");
        badQuestion(4, "often not [not [sees could min|(1");
        goodQuestion(2, "often all");
        goodQuestion(2, "often " + times("not ", 6) + "all");
        goodQuestion(0, " \n often not all \n");
        goodQuestion(1, "total number");
        goodQuestion(3, "total mark");
        goodQuestion(2, "total " + times("could ", 6) + "1");
        goodQuestion(19998, "total 9999");
    }

    public static void main(String[] args) {
        texts();
        blanksBetween();
        numbers();
        names();
        tests();
        open();
        many();
        rules();
        questions();
        TestKit.finish();
    }
}
