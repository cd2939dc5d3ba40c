/** Each promise of the document, by answers worked out by hand: ordinary inputs, edges, wrong inputs. */
public final class PromisesTest {

    private static final int NONE = ForeheadMarks.NONE;
    private static final long NOTHING = ForeheadMarks.NOTHING;

    /** Three who see all others, at least one mark 1: ALL ROWS are 1 .. 7, worn is 3. */
    private static final String THREE = "marks 2;guest ann wears 1;guest bob wears 1;guest cy wears 0;rule sum>0;"
        + "fact ann=1;fact bob+cy=1;fact count 1=2;";

    /** One who is blind, one who sees: 9 ROWS, worn is 1 + 3 * 2. */
    private static final String TWO = "marks 3;guest a wears 1;guest b wears 2;blind a to b;fact a<b;slip 100;";

    private static void due(String call, long got, long want) {
        TestKit.due(call, got, want);
    }

    private static void due(String call, boolean got, boolean want) {
        TestKit.due(call, got, want);
    }

    private static void p1NewObject() {
        ForeheadMarks x = new ForeheadMarks();
        for (int k = 0; k <= 10; k++) {
            due("1 has", x.has(k), 0);
        }
        due("1 deep", x.deep(), NONE);
        due("1 rests", x.rests(), NONE);
        due("1 fits", x.fits(NONE), NONE);
        due("1 fault", x.fault(0), 0);
        due("1 fault", x.fault(1), NONE);
        for (int k = 0; k < 6; k++) {
            due("1 status", x.status(k), 0);
        }
        due("1 constants", ForeheadMarks.NONE, -1);
        due("1 constants", ForeheadMarks.NOTHING, -1000000000000000L);
    }

    private static void p2Feed() {
        ForeheadMarks x = new ForeheadMarks();
        for (int k = 1; k <= 80; k++) {
            due("2 feed", x.feed(1, 2, 3, 4, 5), 20 * k);
        }
        due("2 feed full", x.feed(1, 2, 3, 4, 5), NONE);
        due("2 status", x.status(0), 1);
        due("2 end", x.end(1581), true);
        due("2 feed nearly full", x.feed(1, 2, 3, 4, 5), NONE);
        due("2 end", x.end(1580), true);
        due("2 feed again", x.feed(1, 2, 3, 4, 5), 1600);
        due("2 status", x.status(0), 2);
        x.end(0);
        x.feed(0x6D61726B, 0x7320323B, 0x736C6970, 0x20313B20, 0x20202020);
        due("2 highest byte first", x.parlour(), 2);
        x.end(0);
        due("2 high bit", x.feed(0xFF202020, 0, 0, 0, 0), 20);
        due("2 high bit parlour", x.parlour(), NONE);
        due("2 high bit place", x.fault(1), 0);
    }

    private static void p3End() {
        ForeheadMarks x = new ForeheadMarks();
        due("3 end 0", x.end(0), true);
        due("3 end 1 of none", x.end(1), false);
        due("3 end -1", x.end(-1), false);
        due("3 end least", x.end(Integer.MIN_VALUE), false);
        due("3 status", x.status(0), 3);
        x.feed(0, 0, 0, 0, 0);
        due("3 end 21", x.end(21), false);
        due("3 end 20", x.end(20), true);
        due("3 end 7", x.end(7), true);
        due("3 end 8", x.end(8), false);
        due("3 feed behind", x.feed(0, 0, 0, 0, 0), 27);
        due("3 status", x.status(0), 5);
    }

    private static void p4Parlour() {
        ForeheadMarks x = TestKit.with(THREE);
        x.seed(77);
        x.round();
        TestKit.put(x, 0, 0, 0);
        due("4 hear", x.hear(), 1);
        TestKit.put(x, THREE + "x");
        due("4 parlour with a fault", x.parlour(), NONE);
        due("4 all stays: round", x.has(4), 1);
        due("4 all stays: left", x.has(5), 4);
        due("4 all stays: kept", x.has(8), 1);
        due("4 all stays: heard", x.has(9), 1);
        due("4 all stays: undo", x.has(10), 1);
        due("4 all stays: letter", x.letter(0, 0), 1);
        due("4 refused", x.status(1), 1);
        due("4 the tape went", x.feed(0, 0, 0, 0, 0), 20);
        x.image();
        TestKit.put(x, TWO);
        due("4 parlour", x.parlour(), 6);
        due("4 the tape went", x.feed(0, 0, 0, 0, 0), 20);
        due("4 octet of the latest image", x.octet(1), 1);
        due("4 marks", x.has(0), 3);
        due("4 round", x.has(4), 0);
        due("4 left", x.has(5), 9);
        due("4 kept", x.has(8), 0);
        due("4 heard", x.has(9), 0);
        due("4 undo", x.has(10), 0);
        due("4 undo", x.undo(), false);
        due("4 status stays", x.status(1), 1);
        due("4 seed stays", x.deal(), drawn(77, 9));
        TestKit.put(x, "marks 4;");
        due("4 parlour without guests", x.parlour(), 1);
        due("4 rows without guests", x.has(6), 1);
        due("4 left without guests", x.left(0), 0);
        due("4 rules", x.has(2), 0);
        due("4 facts", x.has(3), 0);
    }

    private static long drawn(long seed, long m) {
        return next(seed) / 64 % m;
    }

    private static long next(long seed) {
        return (1103515245L * seed + 12345L) % 2147483648L;
    }

    private static void p5Fault() {
        ForeheadMarks x = new ForeheadMarks();
        due("5 ahead of any", x.fault(0), 0);
        due("5 ahead of any", x.fault(1), NONE);
        due("5 others", x.fault(2), NONE);
        due("5 others", x.fault(-1), NONE);
        TestKit.put(x, "marks 9");
        x.parlour();
        due("5 fault", x.fault(0), 2);
        due("5 place", x.fault(1), 6);
        due("5 ask without a parlour", TestKit.ask(x, "x"), NOTHING);
        due("5 fault stays", x.fault(0), 2);
        due("5 place stays", x.fault(1), 6);
        TestKit.put(x, TWO);
        x.parlour();
        due("5 none", x.fault(0), 0);
        due("5 none", x.fault(1), NONE);
        TestKit.ask(x, "total x");
        due("5 of ask", x.fault(0), 1);
        due("5 of ask", x.fault(1), 6);
        TestKit.ask(x, "total 1");
        due("5 of ask", x.fault(0), 0);
        due("5 of ask", x.fault(1), NONE);
    }

    private static void p6Has() {
        ForeheadMarks x = TestKit.with(THREE);
        int[] want = {2, 3, 1, 3, 0, 7, 7, 0, 0, 0, 0};
        for (int k = 0; k < want.length; k++) {
            due("6 has " + k, x.has(k), want[k]);
        }
        due("6 others", x.has(11), NONE);
        due("6 others", x.has(-1), NONE);
        x.round();
        TestKit.put(x, 3, 0, 1, 4, 1, 0);
        x.hear();
        int[] then = {2, 3, 1, 3, 1, 4, 7, 2, 1, 2, 1};
        for (int k = 0; k < then.length; k++) {
            due("6 has then " + k, x.has(k), then[k]);
        }
    }

    private static void p7Letter() {
        ForeheadMarks x = TestKit.with("marks 2;guest azbycx wears 0;guest q wears 1;");
        int[] want = {1, 26, 2, 25, 3, 24};
        for (int k = 0; k < 6; k++) {
            due("7 letter", x.letter(0, k), want[k]);
            due("7 letter", x.letter(1, k), k == 0 ? 17 : 0);
        }
        due("7 k", x.letter(0, 6), NONE);
        due("7 k", x.letter(0, -1), NONE);
        due("7 guest", x.letter(2, 0), NONE);
        due("7 guest", x.letter(-1, 0), NONE);
    }

    private static void p8Guest() {
        ForeheadMarks x = TestKit.with(THREE);
        int[] cy = {0, 3, 2, 0, 3};
        for (int k = 0; k < 5; k++) {
            due("8 cy " + k, x.guest(2, k), cy[k]);
        }
        x.round();
        int[] ann = {1, 6, 1, 1, 2};
        for (int k = 0; k < 5; k++) {
            due("8 ann " + k, x.guest(0, k), ann[k]);
        }
        due("8 what", x.guest(0, 5), NONE);
        due("8 what", x.guest(0, -1), NONE);
        due("8 guest", x.guest(3, 0), NONE);
        due("8 guest", x.guest(-1, 0), NONE);
        ForeheadMarks y = TestKit.with(TWO);
        due("8 blind", y.guest(0, 1), 0);
        due("8 blind rows", y.guest(0, 2), 9);
        due("8 blind marks", y.guest(0, 4), 7);
        due("8 sees", y.guest(1, 1), 1);
        due("8 sees rows", y.guest(1, 2), 3);
    }

    private static void p9Fact() {
        ForeheadMarks x = TestKit.with(THREE);
        int[][] want = {{1, 4, 4}, {1, 4, 4}, {1, 3, 3}};
        for (int f = 0; f < 3; f++) {
            for (int k = 0; k < 3; k++) {
                due("9 fact", x.fact(f, k), want[f][k]);
            }
        }
        due("9 what", x.fact(0, 3), NONE);
        due("9 what", x.fact(0, -1), NONE);
        due("9 fact", x.fact(3, 0), NONE);
        due("9 fact", x.fact(-1, 0), NONE);
        x.wear(0, 0);
        due("9 does not hold", x.fact(0, 0), 0);
        due("9 left", x.fact(0, 1), 3);
        due("9 of all", x.fact(0, 2), 4);
        x.tell(0);
        due("9 of left", x.fact(1, 1), 2);
        due("9 of all", x.fact(1, 2), 4);
    }

    private static void p10Left() {
        ForeheadMarks x = TestKit.with(THREE);
        for (int k = 0; k < 7; k++) {
            due("10 left", x.left(k), k + 1);
        }
        due("10 left", x.left(7), NONE);
        due("10 left", x.left(-1), NONE);
        x.round();
        int[] want = {3, 5, 6, 7, NONE};
        for (int k = 0; k < 5; k++) {
            due("10 left", x.left(k), want[k]);
        }
    }

    private static void p11Wears() {
        ForeheadMarks x = TestKit.with("marks 4;guest a wears 0;guest b wears 0;guest c wears 0;guest d wears 0;guest e wears 0;rule sum=0;");
        int row = 3 + 4 * 2 + 16 * 1 + 64 * 0 + 256 * 3;
        int[] want = {3, 2, 1, 0, 3};
        for (int g = 0; g < 5; g++) {
            due("11 wears", x.wears(row, g), want[g]);
        }
        due("11 last", x.wears(1023, 4), 3);
        due("11 first", x.wears(0, 4), 0);
        due("11 row", x.wears(1024, 4), NONE);
        due("11 row", x.wears(-1, 4), NONE);
        due("11 guest", x.wears(0, 5), NONE);
        due("11 guest", x.wears(0, -1), NONE);
    }

    private static void p12Kept() {
        ForeheadMarks x = TestKit.with(THREE);
        x.tell(2);
        x.says(2);
        x.round();
        // behind the FACT 3, 5, 6 are LEFT, and all KNOW in each of these
        int[][] want = {{2, 2, 1, 3}, {1, 2, 1, 3}, {0, 0, 7, 3}};
        for (int k = 0; k < 3; k++) {
            for (int w = 0; w < 4; w++) {
                due("12 kept " + k + " " + w, x.kept(k, w), want[k][w]);
            }
        }
        due("12 what", x.kept(0, 4), NONE);
        due("12 what", x.kept(0, -1), NONE);
        due("12 k", x.kept(3, 0), NONE);
        due("12 k", x.kept(-1, 0), NONE);
        ForeheadMarks y = TestKit.with(THREE);
        y.tell(1);
        for (int k = 0; k < 39; k++) {
            y.says(k % 3);
        }
        due("12 forty", y.has(8), 40);
        due("12 oldest", y.kept(0, 0), 2);
        y.tell(0);
        due("12 still forty", y.has(8), 40);
        due("12 the first went", y.kept(0, 0), 1);
        due("12 newest", y.kept(39, 0), 2);
        due("12 beyond", y.kept(40, 0), NONE);
        y.undo();
        due("12 the first is back", y.kept(0, 0), 2);
        due("12 undone", y.kept(39, 0), 1);
        y.wear(0, 0);
        due("12 wear keeps", y.has(8), 40);
    }

    private static void p13Knows() {
        ForeheadMarks x = TestKit.with(THREE);
        due("13 some", x.knows(0, 1), 0);
        due("13 none", x.knows(0, 2), 2);
        due("13 itself", x.knows(1, 1), NONE);
        due("13 guest", x.knows(3, 1), NONE);
        due("13 guest", x.knows(0, 3), NONE);
        due("13 guest", x.knows(-1, 0), NONE);
        x.round();
        due("13 all", x.knows(0, 1), 1);
        due("13 cy holds 3 and 7", x.knows(2, 0), 0);
    }

    private static void p14Deep() {
        ForeheadMarks x = TestKit.with(THREE);
        due("14 none", x.deep(), 0);
        x.round();
        due("14 not all", x.deep(), 0);
        x.round();
        due("14 one row", x.deep(), 9);
        due("14 no guests", TestKit.with("marks 2;").deep(), 9);
        // 00, 11, 21: in 00 both know; nobody mixes it up with another one
        ForeheadMarks z = TestKit.with("marks 3;guest a wears 0;guest b wears 0;rule b=0 and a=0 or b=1 and a>0;");
        due("14 apart", z.deep(), 9);
        // 000, 110: a knows by b, b by a, c by the rule; c is blind, but all know in both rows
        ForeheadMarks v = TestKit.with("marks 2;guest a wears 0;guest b wears 0;guest c wears 0;blind c to a;blind c to b;"
            + "rule c=0 and a=b;");
        due("14 all in all", v.deep(), 9);
        // 000, 110, 120: in 000 all know; c can't tell it from 110 where b holds 1 and 2 for possible
        ForeheadMarks u = TestKit.with("marks 3;guest a wears 0;guest b wears 0;guest c wears 0;blind c to a;blind c to b;"
            + "rule c=0;rule a=0 and b=0 or a=1 and b>0;");
        due("14 one deep", u.deep(), 1);
        deepSteps();
    }

    /**
     * d is c or c + 1, e tells which: all know their marks, but where c = d = 3 and e may be 2, too. a sees c alone, b sees d
     * alone, so that they mix up rows that are side by side on the way from 0 0 to 3 3.
     */
    private static void deepSteps() {
        for (int step = 0; step <= 6; step++) {
            int c = step / 2;
            int d = (step + 1) / 2;
            ForeheadMarks x = TestKit.with("marks 4;guest a wears 0;guest b wears 0;guest c wears " + c + ";guest d wears " + d
                + ";guest e wears " + (d - c) + ";blind a to b;blind a to d;blind a to e;blind b to a;blind b to c;blind b to e;"
                + "rule a=0 and b=0;rule e=d-c and [e=0 or e=1] or c=3 and d=3 and e=2;fact e<2;");
            due("14 rows", x.has(6), 8);
            due("14 step " + step, x.deep(), 6 - step);
            due("14 again " + step, x.deep(), 6 - step);
            due("14 nothing is spoilt", x.has(7), step == 6 ? 4 : 5);
            x.tell(0);
            due("14 told " + step, x.deep(), 9);
        }
    }

    private static void p15Later() {
        ForeheadMarks x = TestKit.with(THREE);
        int[][] want = {{0, 1, 1}, {0, 1, 1}, {0, 0, 1}};
        for (int g = 0; g < 3; g++) {
            for (int n = 0; n < 3; n++) {
                due("15 later", x.later(g, n), want[g][n]);
            }
        }
        due("15 later 20", x.later(2, 20), 1);
        due("15 n", x.later(0, 21), NONE);
        due("15 n", x.later(0, -1), NONE);
        due("15 guest", x.later(3, 0), NONE);
        due("15 guest", x.later(-1, 0), NONE);
        due("15 nothing happened", x.has(4), 0);
        ForeheadMarks y = TestKit.with(TWO);
        due("15 never", y.later(0, 20), 0);
    }

    private static void p16Learns() {
        ForeheadMarks x = TestKit.with(THREE);
        due("16 learns", x.learns(0), 1);
        due("16 learns", x.learns(2), 2);
        due("16 guest", x.learns(3), NONE);
        due("16 guest", x.learns(-1), NONE);
        x.round();
        due("16 now", x.learns(0), 0);
        due("16 then", x.learns(2), 1);
        x.undo();
        due("16 undone", x.learns(2), 2);
        due("16 never", TestKit.with(TWO).learns(0), NONE);
    }

    private static void p17Rests() {
        ForeheadMarks x = TestKit.with(THREE);
        due("17 rests", x.rests(), 2);
        x.round();
        due("17 rests", x.rests(), 1);
        x.round();
        due("17 now", x.rests(), 0);
        due("17 no guests", TestKit.with("marks 2;").rests(), 0);
        due("17 without a parlour", new ForeheadMarks().rests(), NONE);
        ForeheadMarks y = TestKit.with("marks 2;guest a wears 1;guest b wears 1;guest c wears 1;guest d wears 1;guest e wears 1;rule sum>0;");
        due("17 five", y.rests(), 4);
        due("17 five", y.learns(4), 4);
        pastRound(y, 998);
        due("17 whatever round", y.rests(), 0);
    }

    private static void pastRound(ForeheadMarks y, int round) {
        for (int k = 0; k < 60 && y.has(4) + 20 <= round; k++) {
            y.chance(20);
        }
        for (int k = 0; k < 20 && y.has(4) < round; k++) {
            y.round();
        }
    }

    private static void p18Hints() {
        ForeheadMarks x = TestKit.with(THREE);
        due("18 ann", x.hints(0), 1);
        due("18 bob", x.hints(1), 2);
        due("18 cy", x.hints(2), 2);
        due("18 guest", x.hints(3), NONE);
        due("18 guest", x.hints(-1), NONE);
        x.round();
        due("18 knows", x.hints(0), 0);
        ForeheadMarks y = TestKit.with(TWO);
        // b sees a = 1; a<b leaves b = 2 alone; a is blind
        due("18 b", y.hints(1), 1);
        due("18 not enough", y.hints(0), NONE);
        // 4 marks: two facts are needed, the least bits of those pairs are 3
        ForeheadMarks z = TestKit.with("marks 4;guest a wears 0;fact a<2;fact a=0 or a=2;fact a<2;fact a<3;");
        due("18 two", z.hints(0), 3);
        ForeheadMarks w = TestKit.with("marks 4;guest a wears 0;fact a<2;fact a<3;fact a=0 or a=2;");
        due("18 two", w.hints(0), 5);
        ForeheadMarks v = TestKit.with("marks 4;guest a wears 0;fact a<2;fact a=0 or a=2;fact a=0;");
        due("18 fewest ahead of least", v.hints(0), 4);
        due("18 none", TestKit.with("marks 4;guest a wears 0;fact a<2;").hints(0), NONE);
    }

    private static void p19Secret() {
        ForeheadMarks x = TestKit.with(THREE);
        due("19 ann from bob", x.secret(0, 1), 1);
        due("19 bob from ann", x.secret(1, 0), 2);
        due("19 cy from bob", x.secret(2, 1), NONE);
        due("19 one", x.secret(1, 1), NONE);
        due("19 guest", x.secret(3, 1), NONE);
        due("19 guest", x.secret(1, 3), NONE);
        due("19 guest", x.secret(-1, 1), NONE);
        x.round();
        due("19 nothing need be said", x.secret(0, 2), 0);
        due("19 he knows already", x.secret(2, 0), NONE);
    }

    private static void p20Speaker() {
        ForeheadMarks x = TestKit.with(THREE);
        due("20 first of like ones", x.speaker(0), 0);
        due("20 left", x.speaker(1), 6);
        due("20 what", x.speaker(2), NONE);
        due("20 what", x.speaker(-1), NONE);
        x.round();
        // LEFT 3, 5, 6, 7: ann knows in 3, 5; bob in 3, 6; cy in 5, 6: each leaves 2
        due("20 speaker", x.speaker(0), 0);
        due("20 left", x.speaker(1), 2);
        // b alone has something to say: rows 0, 1 + 3 ...: a is blind
        ForeheadMarks y = TestKit.with("marks 3;guest a wears 0;guest b wears 0;blind a to b;rule a=0 and b=0 or a>0;");
        due("20 second", y.speaker(0), 1);
        due("20 second leaves", y.speaker(1), 1);
        due("20 no guests", TestKit.with("marks 2;").speaker(0), NONE);
        due("20 no parlour", new ForeheadMarks().speaker(0), NONE);
    }

    private static void p21Slowest() {
        ForeheadMarks x = TestKit.with(THREE);
        due("21 row", x.slowest(0, 0), 6);
        due("21 rounds", x.slowest(0, 1), 2);
        due("21 row", x.slowest(1, 0), 5);
        due("21 row", x.slowest(2, 0), 3);
        due("21 what", x.slowest(0, 2), NONE);
        due("21 what", x.slowest(0, -1), NONE);
        due("21 guest", x.slowest(3, 0), NONE);
        x.round();
        x.round();
        due("21 anew", x.slowest(0, 0), 6);
        due("21 none", TestKit.with(TWO).slowest(0, 0), NONE);
        due("21 none", TestKit.with(TWO).slowest(0, 1), NONE);
        ForeheadMarks y = TestKit.with("marks 2;guest a wears 1;rule a=1;");
        due("21 at once", y.slowest(0, 0), 1);
        due("21 at once", y.slowest(0, 1), 0);
    }

    private static void p22Odds() {
        ForeheadMarks x = TestKit.with(THREE);
        int[] want = {1, 5, 7, 7};
        for (int n = 0; n < 4; n++) {
            due("22 odds", x.odds(1, n), want[n]);
        }
        due("22 odds", x.odds(2, 20), 7);
        due("22 n", x.odds(2, 21), NONE);
        due("22 n", x.odds(2, -1), NONE);
        due("22 guest", x.odds(3, 0), NONE);
        due("22 guest", x.odds(-1, 0), NONE);
        x.round();
        due("22 anew", x.odds(1, 0), 1);
    }

    private static void p23Hear() {
        ForeheadMarks x = TestKit.with(THREE);
        int[][] bad = {{}, {0}, {0, 0}, {0, 0, 0, 0}, {16, 0, 0}, {0, 3, 0}, {0, 0, 2}, {0, 0, 0, 0, 0, 255}};
        TestKit.put(x, 15, 2, 1);
        due("23 hear", x.hear(), 1);
        for (int[] b : bad) {
            TestKit.put(x, b);
            due("23 none such", x.hear(), NONE);
        }
        due("23 all stays", x.has(9), 1);
        due("23 all stays", x.fits(NONE), 7);
        due("23 refused", x.status(1), bad.length);
        due("23 the tape went", x.feed(0, 0, 0, 0, 0), 20);
        TestKit.put(x, new byte[48]);
        due("23 sixteen", x.hear(), 16);
        TestKit.put(x, new byte[51]);
        due("23 seventeen", x.hear(), NONE);
        due("23 sixteen stay", x.has(9), 16);
        ForeheadMarks y = TestKit.with("marks 2;");
        TestKit.put(y, 0, 0, 0);
        due("23 no guests", y.hear(), NONE);
        ForeheadMarks z = new ForeheadMarks();
        TestKit.put(z, 0, 0, 0);
        due("23 no parlour", z.hear(), NONE);
        due("23 no parlour", z.status(1), 1);
    }

    private static void p24Fits() {
        ForeheadMarks x = TestKit.with(THREE);
        due("24 all", x.fits(NONE), 7);
        TestKit.put(x, 1, 0, 0);
        x.hear();
        due("24 how many", x.fits(NONE), 2);
        due("24 first", x.fits(0), 6);
        due("24 second", x.fits(1), 7);
        due("24 beyond", x.fits(2), NONE);
        due("24 below", x.fits(-2), NONE);
        TestKit.put(x, 0, 0, 1, 0, 1, 1);
        x.hear();
        due("24 none fit", x.fits(NONE), 0);
        due("24 none fit", x.fits(0), NONE);
        due("24 no parlour", new ForeheadMarks().fits(NONE), NONE);
        due("24 no guests", TestKit.with("marks 2;").fits(NONE), 1);
    }

    private static void p25Could() {
        ForeheadMarks x = TestKit.with(THREE);
        due("25 all", x.could(0), 3);
        TestKit.put(x, 1, 0, 0);
        x.hear();
        due("25 ann", x.could(0), 3);
        due("25 bob", x.could(1), 2);
        due("25 cy", x.could(2), 2);
        due("25 guest", x.could(3), NONE);
        due("25 guest", x.could(-1), NONE);
        TestKit.put(x, 0, 0, 1, 0, 1, 1);
        x.hear();
        due("25 none", x.could(0), 0);
    }

    private static void p26Tells() {
        ForeheadMarks x = TestKit.with(THREE);
        due("26 rounds", x.tells(0), 1);
        due("26 guest", x.tells(1), 0);
        due("26 left", x.tells(2), 5);
        due("26 what", x.tells(3), NONE);
        due("26 what", x.tells(-1), NONE);
        TestKit.put(x, 0, 0, 1, 0, 1, 1);
        x.hear();
        due("26 no fits", x.tells(0), NONE);
        TestKit.put(x, 1, 0, 0);
        x.hear();
        // FITS 6 and 7: behind 1 ROUND bob knows in 6, not in 7
        due("26 rounds", x.tells(0), 1);
        due("26 guest", x.tells(1), 1);
        due("26 left", x.tells(2), 1);
        due("26 no guests", TestKit.with("marks 2;").tells(0), NONE);
        due("26 no parlour", new ForeheadMarks().tells(0), NONE);
    }

    private static void p27Round() {
        ForeheadMarks x = TestKit.with(THREE);
        due("27 nobody", x.round(), 0);
        due("27 round", x.has(4), 1);
        due("27 left", x.has(5), 4);
        due("27 two", x.round(), 3);
        due("27 left", x.has(5), 1);
        due("27 all", x.round(), 7);
        due("27 kept", x.kept(2, 2), 7);
        pastRound(x, 999);
        due("27 999", x.has(4), 999);
        due("27 refused", x.round(), NONE);
        due("27 refused", x.status(3), 1);
        due("27 all stays", x.has(4), 999);
        ForeheadMarks y = new ForeheadMarks();
        due("27 no parlour", y.round(), NONE);
        due("27 no parlour", y.status(3), 1);
        due("27 no guests", TestKit.with("marks 2;").round(), 0);
    }

    private static void p28Says() {
        ForeheadMarks x = TestKit.with(THREE);
        due("28 says", x.says(0), 0);
        due("28 left", x.has(5), 6);
        due("28 round", x.has(4), 0);
        due("28 kept", x.kept(0, 3), 6);
        // LEFT 2 .. 7: bob sees ann = 1, cy = 0 and knows
        due("28 says", x.says(1), 1);
        due("28 guest", x.says(3), NONE);
        due("28 guest", x.says(-1), NONE);
        due("28 refused", x.status(2), 2);
        due("28 acts", x.has(10), 2);
    }

    private static void p29Tell() {
        ForeheadMarks x = TestKit.with(THREE);
        due("29 tell", x.tell(2), 1);
        due("29 left", x.has(5), 3);
        due("29 left", x.left(1), 5);
        due("29 fact", x.tell(3), NONE);
        due("29 fact", x.tell(-1), NONE);
        due("29 refused", x.status(2), 2);
        x.wear(2, 1);
        due("29 does not hold", x.tell(2), 0);
        due("29 left", x.has(5), 4);
        due("29 kept", x.kept(1, 2), 0);
    }

    private static void p30Wear() {
        ForeheadMarks x = TestKit.with(THREE);
        x.round();
        due("30 the same", x.wear(0, 1), false);
        due("30 mark", x.wear(0, 2), false);
        due("30 mark", x.wear(0, -1), false);
        due("30 guest", x.wear(3, 0), false);
        due("30 guest", x.wear(-1, 0), false);
        due("30 refused", x.status(2), 5);
        due("30 all stays", x.has(4), 1);
        due("30 wear", x.wear(0, 0), true);
        due("30 mark", x.guest(0, 0), 0);
        due("30 round", x.has(4), 0);
        due("30 left", x.has(5), 7);
        due("30 kept stays", x.has(8), 1);
        due("30 a rule", x.wear(1, 0), false);
        due("30 refused", x.status(2), 6);
        due("30 undo", x.undo(), true);
        due("30 undone", x.guest(0, 0), 1);
        due("30 undone", x.has(5), 4);
        due("30 undone", x.has(4), 1);
    }

    private static void p31Chance() {
        ForeheadMarks x = TestKit.with(THREE);
        due("31 n", x.chance(0), NONE);
        due("31 n", x.chance(21), NONE);
        due("31 n", x.chance(-5), NONE);
        due("31 refused", x.status(3), 3);
        due("31 no slip", x.chance(2), 0);
        due("31 rounds", x.has(4), 2);
        due("31 left", x.has(5), 1);
        due("31 kept", x.has(8), 2);
        due("31 one act", x.has(10), 1);
        // two DRAWS of 100 went by
        due("31 seed", x.deal(), 1 + drawn(next(next(1)), 7));
        // worn is 1, ann alone KNOWS; when she is not heard, those stay in which neither bob nor cy does
        ForeheadMarks y = TestKit.with(THREE.replace("bob wears 1", "bob wears 0") + "slip 100;");
        for (int seed = 0; seed < 30; seed++) {
            y.seed(seed);
            long unheard = drawn(next(seed), 3);
            due("31 slip", y.chance(1), 1);
            due("31 not heard", y.kept(0, 2), unheard == 0 ? 0 : 1);
            due("31 left", y.has(5), unheard == 0 ? 5 : 1);
            y.undo();
        }
        pastRound(y, 990);
        due("31 beyond", y.chance(10), NONE);
        due("31 up to", y.chance(9) >= 0, true);
        due("31 at 999", y.has(4), 999);
        due("31 beyond", y.chance(1), NONE);
        due("31 no parlour", new ForeheadMarks().chance(1), NONE);
        ForeheadMarks z = TestKit.with("marks 2;slip 100;");
        due("31 no guests", z.chance(3), 0);
        ForeheadMarks w = TestKit.with(THREE + "slip 50;");
        int times = 0;
        long s = 1;
        for (int k = 0; k < 20; k++) {
            s = next(s);
            if (s / 64 % 100 < 50) {
                times++;
                s = next(s);
            }
        }
        due("31 times", w.chance(20), times);
    }

    private static void p32Deal() {
        ForeheadMarks x = TestKit.with(THREE);
        x.round();
        long row = 1 + drawn(1, 7);
        due("32 deal", x.deal(), row);
        due("32 worn", x.guest(0, 0), row & 1);
        due("32 round", x.has(4), 0);
        due("32 left", x.has(5), 7);
        due("32 an act", x.has(10), 2);
        due("32 next", x.deal(), 1 + drawn(next(1), 7));
        due("32 undo", x.undo(), true);
        due("32 undone", x.guest(1, 0), row >> 1 & 1);
        due("32 the seed stays", x.deal(), 1 + drawn(next(next(1)), 7));
        ForeheadMarks y = new ForeheadMarks();
        due("32 no parlour", y.deal(), NONE);
        due("32 refused", y.status(3), 1);
    }

    private static void p33Undo() {
        ForeheadMarks x = TestKit.with(THREE);
        due("33 none", x.undo(), false);
        due("33 refused", x.status(4), 1);
        x.tell(0);
        x.chance(3);
        x.says(1);
        due("33 undo says", x.undo(), true);
        due("33 kept", x.has(8), 4);
        due("33 undo chance", x.undo(), true);
        due("33 kept", x.has(8), 1);
        due("33 round", x.has(4), 0);
        due("33 left", x.has(5), 4);
        due("33 undo tell", x.undo(), true);
        due("33 left", x.has(5), 7);
        due("33 none", x.undo(), false);
        for (int k = 0; k < 21; k++) {
            x.round();
        }
        due("33 twenty", x.has(10), 20);
        for (int k = 0; k < 20; k++) {
            due("33 undo", x.undo(), true);
        }
        due("33 no more", x.undo(), false);
        due("33 the first stays", x.has(4), 1);
        due("33 left", x.has(5), 4);
    }

    private static void p34Seed() {
        ForeheadMarks x = TestKit.with(THREE);
        due("34 below", x.seed(-1), false);
        due("34 least", x.seed(Integer.MIN_VALUE), false);
        due("34 refused", x.status(5), 2);
        due("34 is 1 at first", x.deal(), 1 + drawn(1, 7));
        due("34 zero", x.seed(0), true);
        due("34 zero", x.deal(), 1 + drawn(0, 7));
        due("34 greatest", x.seed(Integer.MAX_VALUE), true);
        due("34 greatest", x.deal(), 1 + drawn(Integer.MAX_VALUE, 7));
        due("34 no parlour", new ForeheadMarks().seed(3), true);
    }

    private static void p35Ask() {
        ForeheadMarks x = TestKit.with(THREE);
        x.round();
        String[] texts = {"first mark=0", "last knows=1", "first mark>1", "last mark>1", "often mark=1", "total number",
            "most number*number", "least rows", "most rows", "total round", "total sees 0", "total sees 2", "total sees 3", "total sees 5", "total sees 9999",
            "total could 0", "total could 1", "total could 2", "first sees (0-1)=1", "total 9999*9999", "least 0-9999*9999",
            "total (0-7)/2", "total 7/0", "most min(number,1)+max(number,1)", "often not knows=1 or number=0 and mark=0",
            "often [not knows=1 or number=0] and mark=0", "total 1-1-1", "total 8/2*2", "total 2+3*4", "often all",
            "often 9999*9999=9999*101", "often 0-9999*9999<0-9999*100", "total 9999*100+9999"};
        long[] want = {2, 1, NONE, NONE, 2, 3, 4, 1, 2, 3, 2, 2, 0, 0, 0, 1, 3, 0, NONE, 3000000, -1000000,
            -12, 0, 3, 1, 1, -3, 24, 42, 3, 3, 3, 3000000};
        for (int k = 0; k < texts.length; k++) {
            due("35 " + texts[k], TestKit.ask(x, texts[k]), want[k]);
        }
        due("35 the tape went", x.feed(0, 0, 0, 0, 0), 20);
        due("35 a fault", TestKit.ask(x, "total"), NOTHING);
        due("35 the tape went", x.feed(0, 0, 0, 0, 0), 20);
        ForeheadMarks y = TestKit.with("marks 2;");
        String[] none = {"first all", "last all", "often all", "total 1", "most 1", "least 1"};
        long[] due = {NONE, NONE, 0, 0, 0, 0};
        for (int k = 0; k < none.length; k++) {
            due("35 no guests " + none[k], TestKit.ask(y, none[k]), due[k]);
        }
        ForeheadMarks z = new ForeheadMarks();
        due("35 no parlour", TestKit.ask(z, "often all"), NOTHING);
        due("35 no parlour: the tape went", z.feed(0, 0, 0, 0, 0), 20);
    }

    private static void p36Image() {
        ForeheadMarks x = TestKit.with(THREE);
        due("36 image", x.image(), 7);
        int[] want = {0, 0, 1, 1, 0, 0xFE, 0};
        dueImage(x, want);
        pastRound(x, 600);
        due("36 image", x.image(), 7);
        int[] then = {600 / 256, 600 % 256, 1, 1, 0, 8, 0};
        dueImage(x, then);
        due("36 no guests", TestKit.with("marks 2;").image(), 4);
        due("36 no parlour", new ForeheadMarks().image(), 3);
        due("36 two bytes of rows", TestKit.with(TWO).image(), 7);
        ForeheadMarks y = TestKit.with(TWO);
        y.image();
        dueImage(y, new int[] {0, 0, 1, 2, 0xFF, 1, 0});
        ForeheadMarks z = TestKit.with("marks 4;guest a wears 3;guest b wears 2;guest c wears 1;guest d wears 0;guest e wears 3;rule e>0;");
        due("36 greatest", z.image(), 136);
        int[] great = new int[136];
        System.arraycopy(new int[] {0, 0, 3, 2, 1, 0, 3}, 0, great, 0, 7);
        java.util.Arrays.fill(great, 7 + 32, 135, 255);
        dueImage(z, great);
    }

    private static void dueImage(ForeheadMarks x, int[] want) {
        int c = 197;
        for (int k = 0; k + 1 < want.length; k++) {
            c = (3 * c + want[k]) % 251;
            due("36 octet " + k, x.octet(k), want[k]);
        }
        due("36 last", x.octet(want.length - 1), c);
    }

    private static void p37Octet() {
        ForeheadMarks x = TestKit.with(THREE);
        due("37 ahead of an image", x.octet(0), NONE);
        x.image();
        due("37 octet", x.octet(5), 0xFE);
        due("37 beyond", x.octet(7), NONE);
        due("37 below", x.octet(-1), NONE);
        x.round();
        due("37 the latest image", x.octet(5), 0xFE);
        x.image();
        due("37 the latest image", x.octet(5), 0xE8);
    }

    private static void p38On() {
        ForeheadMarks x = TestKit.with(THREE);
        x.round();
        byte[] image = Probe.imageOf(x);
        x.wear(0, 0);
        TestKit.put(x, 1, 0, 0);
        x.hear();
        due("38 on", Probe.onWith(x, image), true);
        due("38 the tape went", x.feed(0, 0, 0, 0, 0), 20);
        due("38 round", x.has(4), 1);
        due("38 left", x.has(5), 4);
        due("38 worn", x.guest(0, 0), 1);
        due("38 knows", x.has(7), 2);
        due("38 ahead", x.learns(2), 1);
        due("38 nothing kept", x.has(8), 0);
        due("38 nothing undone", x.has(10), 0);
        due("38 heard stays", x.has(9), 1);
        due("38 sealed", Probe.onWith(x, Probe.sealed(3, 231, 1, 1, 0, 8)), true);
        due("38 round", x.has(4), 999);
        byte[][] bad = {
            {}, Probe.sealed(), Probe.sealed(3, 232, 1, 1, 0, 8), Probe.sealed(0, 0, 2, 1, 0, 8), Probe.sealed(0, 0, 1, 1, 255, 8), Probe.sealed(0, 0, 1, 1, 0, 9),
            Probe.sealed(0, 0, 1, 1, 0, 4), Probe.sealed(0, 0, 1, 1, 0, 0), Probe.sealed(0, 0, 0, 0, 0, 1), Probe.sealed(0, 0, 1, 1, 0, 8, 0),
            Probe.sealed(0, 0, 1, 1, 8), {0, 0, 1, 1, 0, 8, 0}};
        for (int k = 0; k < bad.length; k++) {
            due("38 none " + k, Probe.onWith(x, bad[k]), false);
        }
        due("38 refused", x.status(5), bad.length);
        due("38 all stays", x.has(4), 999);
        due("38 all stays", x.has(5), 1);
        due("38 the tape went", x.feed(0, 0, 0, 0, 0), 20);
        ForeheadMarks y = TestKit.with(TWO);
        due("38 bits of no rows", Probe.onWith(y, Probe.sealed(0, 0, 1, 2, 255, 3)), false);
        due("38 last row", Probe.onWith(y, Probe.sealed(0, 0, 2, 2, 0, 1)), true);
        due("38 worn", y.left(0), 8);
        ForeheadMarks z = new ForeheadMarks();
        due("38 no parlour", Probe.onWith(z, Probe.sealed(0, 0)), false);
        due("38 no parlour", z.status(5), 1);
        due("38 no guests", Probe.onWith(TestKit.with("marks 2;"), Probe.sealed(0, 7, 1)), true);
        due("38 no guests, no row", Probe.onWith(TestKit.with("marks 2;"), Probe.sealed(0, 7, 0)), false);
    }

    private static void p39Status() {
        ForeheadMarks x = new ForeheadMarks();
        x.end(1);
        x.parlour();
        x.hear();
        x.says(0);
        x.tell(0);
        x.wear(0, 0);
        x.round();
        x.chance(1);
        x.deal();
        x.undo();
        x.seed(-1);
        x.on();
        int[] want = {1, 2, 3, 3, 1, 2};
        for (int k = 0; k < 6; k++) {
            due("39 status", x.status(k), want[k]);
        }
        due("39 others", x.status(6), NONE);
        due("39 others", x.status(-1), NONE);
    }

    public static void main(String[] args) {
        p1NewObject();
        p2Feed();
        p3End();
        p4Parlour();
        p5Fault();
        p6Has();
        p7Letter();
        p8Guest();
        p9Fact();
        p10Left();
        p11Wears();
        p12Kept();
        p13Knows();
        p14Deep();
        p15Later();
        p16Learns();
        p17Rests();
        p18Hints();
        p19Secret();
        p20Speaker();
        p21Slowest();
        p22Odds();
        p23Hear();
        p24Fits();
        p25Could();
        p26Tells();
        p27Round();
        p28Says();
        p29Tell();
        p30Wear();
        p31Chance();
        p32Deal();
        p33Undo();
        p34Seed();
        p35Ask();
        p36Image();
        p37Octet();
        p38On();
        p39Status();
        TestKit.finish();
    }
}
