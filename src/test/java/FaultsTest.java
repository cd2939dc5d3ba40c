/** Texts of parlours and questions, each with the FAULT and the place that are due (promises 4, 5, 35; Terms I, IV). */
public final class FaultsTest {

    private static final String HEAD = Texts.HEAD;

    private static String times(String piece, int n) {
        return piece.repeat(n);
    }

    private static void texts() {
        Texts.bad(1, "|");
        Texts.bad(1, "  \n |");
        Texts.bad(1, "|x");
        Texts.bad(1, "|;");
        Texts.bad(1, "|Marks 2;");
        Texts.bad(1, "|marksx 2;");
        Texts.bad(1, "|mark 2;");
        Texts.bad(1, "|mar");
        Texts.bad(1, "marks|");
        Texts.bad(1, "marks |;");
        Texts.bad(1, "marks |two;");
        Texts.bad(1, "marks |\t2;");
        Texts.bad(1, "marks 2|");
        Texts.bad(1, "marks 2  |");
        Texts.bad(1, "marks 2 |2;");
        Texts.bad(1, "marks 2;|;");
        Texts.bad(1, "marks 2;|marks 2;");
        Texts.bad(1, "|guest a wears 1;");
        Texts.bad(1, "|slip 1;");
        Texts.bad(1, "marks 2;|sum;");
        Texts.bad(1, "marks 2;|guests a wears 1;");
        Texts.bad(1, "marks 2;|a;");
        Texts.bad(1, "marks 2;|1;");
        Texts.bad(1, "marks |" + (char) 200 + "2;");
        Texts.good(1, "marks 2;");
        Texts.good(1, " \n marks\n2 \n;\n ");
        Texts.good(1, "marks 0002;");
    }

    private static void blanksBetween() {
        Texts.bad(1, "marks|2;");
        Texts.bad(1, "marks 2;guest a wears|1;");
        Texts.bad(1, "marks 2;guest a|1 wears 1;");
        Texts.bad(1, "marks 2;guest a wears 1|x;");
        Texts.bad(1, "marks 2;slip|5;");
        Texts.bad(1, "marks 2;rule 1=1|and 2=2;");
        Texts.bad(1, "marks 2;rule 1=1|or 2=2;");
        Texts.bad(1, "marks 2;rule not|1=2;");
        Texts.bad(1, "marks 2;rule count|1=0;");
        Texts.bad(1, "marks 2;rule|1=1;");
        Texts.bad(1, "marks 2;rule 1=1 and|2=2;");
        Texts.bad(1, "marks 2;|guesta wears 1;");
        Texts.good(2, "marks 2;rule[1=1]and[2=2]or not[3=3];");
        Texts.good(2, "marks 2;rule(1)=1 and count(1)=0;");
    }

    private static void numbers() {
        Texts.bad(2, "marks |1;");
        Texts.bad(2, "marks |0;");
        Texts.bad(2, "marks |5;");
        Texts.bad(2, "marks |9999;");
        Texts.bad(1, "marks 1234|5;");
        Texts.bad(1, "marks 0000|2;");
        Texts.bad(2, "marks |5x");
        Texts.bad(2, "marks 2;guest a wears |2;");
        Texts.bad(2, "marks 4;guest a wears |4;");
        Texts.bad(1, "marks 4;guest a wears |;");
        Texts.bad(1, "marks 4;guest a wears |b;");
        Texts.bad(2, "marks 2;slip |101;");
        Texts.bad(1, "marks 2;slip 1000|0;");
        Texts.bad(1, "marks 2;slip 0000|0;");
        Texts.bad(1, "marks 2;slip |-1;");
        Texts.bad(1, "marks 2;rule 1234|5=1;");
        Texts.bad(1, "marks 2;rule 1=0000|1;");
        Texts.good(2, "marks 4;guest a wears 3;");
        Texts.good(3, "marks 2;slip 100;slip 0;");
        Texts.good(2, "marks 2;rule 9999=9999;");
    }

    private static void names() {
        Texts.bad(1, "marks 2;guest |;");
        Texts.bad(1, "marks 2;guest |1 wears 1;");
        Texts.bad(1, "marks 2;guest |A wears 1;");
        Texts.bad(1, "marks 2;guest abcdef|g wears 1;");
        Texts.bad(1, "marks 2;guest number|s wears 1;");
        for (String own : ("marks guest wears blind to rule fact slip sum top low kinds count number mark rows knows"
            + " round sees could or and not all min max").split(" ")) {
            Texts.bad(1, "marks 2;guest |" + own + " wears 1;");
            Texts.bad(1, HEAD + "blind |" + own + " to a;");
            Texts.bad(1, HEAD + "blind a to |" + own + ";");
        }
        for (String free : "first last often total most least abcdef z markss tos".split(" ")) {
            Texts.good(2, "marks 2;guest " + free + " wears 1;");
        }
        Texts.bad(1, "marks 2;guest a |wear 1;");
        Texts.bad(1, "marks 2;guest a |to 1;");
        Texts.bad(1, "marks 2;guest a |;");
        Texts.bad(1, "marks 2;guest a|");
        Texts.bad(3, HEAD + "guest |a wears 0;");
        Texts.bad(3, HEAD + "guest |b x");
        Texts.bad(3, HEAD + "blind |c to a;");
        Texts.bad(3, HEAD + "blind |c x");
        Texts.bad(3, HEAD + "blind a to |c;");
        Texts.bad(3, HEAD + "blind a to |a;");
        Texts.bad(3, HEAD + "blind a to b;blind a to |b;");
        Texts.bad(1, HEAD + "blind abcdef|g to a;");
        Texts.bad(1, HEAD + "blind a to abcdef|g;");
        Texts.bad(1, HEAD + "blind a |b;");
        Texts.bad(1, HEAD + "blind a to |;");
        Texts.bad(3, "marks 2;blind |a to b;guest a wears 1;guest b wears 1;");
        Texts.good(5, HEAD + "blind a to b;blind b to a;");
    }

    private static void tests() {
        Texts.bad(1, HEAD + "rule |;");
        Texts.bad(1, HEAD + "rule |c=1;");
        Texts.bad(1, HEAD + "rule |abcdefgh=1;");
        Texts.bad(1, HEAD + "rule |number=1;");
        Texts.bad(1, HEAD + "rule |sees 1=1;");
        Texts.bad(1, HEAD + "rule |mark=1;");
        Texts.bad(1, HEAD + "rule |first=1;");
        Texts.bad(1, HEAD + "rule a|;");
        Texts.bad(1, HEAD + "rule a |b;");
        Texts.bad(1, HEAD + "rule a=|;");
        Texts.bad(1, HEAD + "rule a=|=1;");
        Texts.bad(1, HEAD + "rule a<|=1;");
        Texts.bad(1, HEAD + "rule |-1=a;");
        Texts.bad(1, HEAD + "rule a=1|=1;");
        Texts.bad(1, HEAD + "rule a=1 and |;");
        Texts.bad(1, HEAD + "rule a=1 or |or;");
        Texts.bad(1, HEAD + "rule a=1 |nor a=1;");
        Texts.bad(1, HEAD + "rule a=1 |not a=1;");
        Texts.bad(1, HEAD + "rule [a=1|;");
        Texts.bad(1, HEAD + "rule [a=1|);");
        Texts.bad(1, HEAD + "rule a=1|];");
        Texts.bad(1, HEAD + "rule (a|=1);");
        Texts.bad(1, HEAD + "rule (a|;");
        Texts.bad(1, HEAD + "rule a=|[a=1];");
        Texts.bad(1, HEAD + "rule a=|all;");
        Texts.bad(1, HEAD + "rule all|=1;");
        Texts.bad(1, HEAD + "rule min|=1;");
        Texts.bad(1, HEAD + "rule min |a=1;");
        Texts.bad(1, HEAD + "rule min(a|)=1;");
        Texts.bad(1, HEAD + "rule min(a,b|,a)=1;");
        Texts.bad(1, HEAD + "rule max(|,b)=1;");
        Texts.bad(1, HEAD + "rule a|%2=1;");
        Texts.bad(1, HEAD + "rule count |=1;");
        Texts.bad(1, HEAD + "fact a=1|");
        Texts.bad(1, HEAD + "fact count 1=count|");
        Texts.bad(1, "marks 2;rule |a=1;guest a wears 1;");
        Texts.good(4, HEAD + "rule min(a,b)=1 and max ( a , b ) = 2 and a+b=3 and a*2/2-1=0;");
        Texts.good(4, HEAD + "fact sum=top or low=kinds and count count 1=0;");
    }

    private static void open() {
        Texts.bad(4, HEAD + "rule " + times("(", 6) + "|(a");
        Texts.bad(4, HEAD + "rule " + times("[", 6) + "|[a=1");
        Texts.bad(4, HEAD + "rule " + times("not ", 6) + "|not a=1");
        Texts.bad(4, HEAD + "rule " + times("count ", 6) + "|count 1=1");
        Texts.bad(4, HEAD + "rule [not [not (count |(");
        Texts.bad(4, HEAD + "rule min(max(min(max(min(max(1,2),1),1),1),1),min(max(min(max(min(max|(1");
        Texts.bad(1, HEAD + "rule " + times("not ", 6) + "|and");
        Texts.good(4, HEAD + "rule " + times("not ", 6) + "a=1;");
        Texts.good(4, HEAD + "rule " + times("(", 6) + "a" + times(")", 6) + "=" + times("(", 6) + "a" + times(")", 6) + ";");
        Texts.good(4, HEAD + "rule " + times("[", 6) + "a=1" + times("]", 6) + ";");
        Texts.good(4, HEAD + "rule " + times("not ", 6) + "a=1 and " + times("not ", 6) + "a=1;");
        Texts.good(4, HEAD + "fact " + times("count ", 6) + "1=" + times("count ", 6) + "1;");
        Texts.good(4, HEAD + "fact " + times("count ", 6) + "1+" + times("count ", 6) + "1=0;");
        Texts.good(4, HEAD + "fact not not not count count count 1=1 or not not [not [ count 1=2]];");
    }

    private static void many() {
        String five = "marks 2;guest a wears 0;guest b wears 0;guest c wears 0;guest d wears 0;guest e wears 0;";
        Texts.good(6, five);
        Texts.bad(5, five + "|guest a x");
        Texts.bad(5, five + " |guest");
        Texts.good(5, "marks 2;" + times("rule all;", 4));
        Texts.bad(5, "marks 2;" + times("rule all;", 4) + "|rule;");
        Texts.good(9, "marks 2;" + times("fact all;", 8));
        Texts.bad(5, "marks 2;" + times("fact all;", 8) + "|fact;");
        Texts.bad(1, "marks 2;" + times("fact all;", 8) + "|facts;");
        Texts.good(60, "marks 2;" + times("slip 1;", 59));
        Texts.good(60, "marks 2;" + times("slip 1;", 59) + " \n");
        Texts.bad(5, "marks 2;" + times("slip 1;", 59) + " |slip 1;");
        Texts.bad(5, "marks 2;" + times("slip 1;", 59) + "|;");
        Texts.bad(5, "marks 2;" + times("slip 1;", 59) + "|" + (char) 255);
        Texts.bad(5, "marks 2;" + times("slip 1;", 59) + "|1");
        Texts.bad(1, "marks 2;" + times("slip 1;", 58) + "slip 1|");
    }

    private static void rules() {
        Texts.bad(6, HEAD + "rule a=2;|");
        Texts.bad(6, HEAD + "rule a=1;rule b=1;fact all; |");
        Texts.bad(6, "marks 2;rule sum>0;|");
        Texts.bad(1, HEAD + "rule a=2;|x");
        Texts.good(4, "marks 3;rule sum=2;guest a wears 0;guest b wears 2;");
    }

    private static void questions() {
        Texts.badQuestion(1, "|");
        Texts.badQuestion(1, " |");
        Texts.badQuestion(1, "|x");
        Texts.badQuestion(1, "|any all");
        Texts.badQuestion(1, "|sum");
        Texts.badQuestion(1, "|;");
        Texts.badQuestion(1, "first|");
        Texts.badQuestion(1, "first |a=1");
        Texts.badQuestion(1, "first |sum=1");
        Texts.badQuestion(1, "first |count 1=1");
        Texts.badQuestion(1, "first |top=1");
        Texts.badQuestion(1, "first |unknownword=1");
        Texts.badQuestion(1, "first number|");
        Texts.badQuestion(1, "total |all");
        Texts.badQuestion(1, "total number|=1");
        Texts.badQuestion(1, "total number |and");
        Texts.badQuestion(1, "total number|;");
        Texts.badQuestion(1, "often all|;");
        Texts.badQuestion(1, "often all |all");
        Texts.badQuestion(1, "total |blind");
        Texts.badQuestion(1, "total 1234|5");
        Texts.badQuestion(1, "total|5");
        Texts.badQuestion(1, "total sees|1");
        Texts.badQuestion(1, "most (number|");
        Texts.badQuestion(1, "most sees |");
        Texts.badQuestion(4, "total " + times("(", 6) + "|(1");
        Texts.badQuestion(4, "total " + times("sees ", 6) + "|sees 1");
        Texts.badQuestion(4, "total " + times("could ", 6) + "|could 1");
        Texts.badQuestion(4, "often " + times("not ", 6) + "|not all");
        Texts.badQuestion(4, "often not [not [sees could |(1");
        Texts.badQuestion(4, "often not [not [sees could min|(1");
        Texts.goodQuestion(2, "often all");
        Texts.goodQuestion(2, "often " + times("not ", 6) + "all");
        Texts.goodQuestion(0, " \n often not all \n");
        Texts.goodQuestion(1, "total number");
        Texts.goodQuestion(3, "total mark");
        Texts.goodQuestion(2, "total " + times("could ", 6) + "1");
        Texts.goodQuestion(19998, "total 9999");
    }

    public static void main(String[] args) {
        texts();
        blanksBetween();
        numbers();
        names();
        tests();
        open();
        many();
        rules();
        questions();
        TestKit.finish();
    }
}
