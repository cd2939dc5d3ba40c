import java.util.List;

/** Each call that is refused: what it answers, where it is counted, and that all stays, what comes next too. */
public final class RefusedTest {

    private static final int NONE = ForeheadMarks.NONE;
    private static final int LEAST = Integer.MIN_VALUE;
    private static final int GREATEST = Integer.MAX_VALUE;

    private static final String THREE = "marks 2;guest ann wears 1;guest bob wears 1;guest cy wears 0;rule sum>0;"
        + "fact ann=1;fact bob+cy=1;fact count 1=2;slip 50;";

    /** A call, told as a text with its numbers, on an object and with a tape. */
    private record Call(String name, int first, int second, byte[] tape) {
        long on(ForeheadMarks x) {
            if (tape != null) {
                TestKit.put(x, tape);
            }
            return switch (name) {
                case "parlour" -> x.parlour();
                case "hear" -> x.hear();
                case "on" -> x.on() ? 1 : 0;
                case "round" -> x.round();
                case "says" -> x.says(first);
                case "tell" -> x.tell(first);
                case "wear" -> x.wear(first, second) ? 1 : 0;
                case "chance" -> x.chance(first);
                case "deal" -> x.deal();
                case "undo" -> x.undo() ? 1 : 0;
                case "seed" -> x.seed(first) ? 1 : 0;
                case "end" -> x.end(first) ? 1 : 0;
                case "feed" -> x.feed(1, 2, 3, 4, 5);
                default -> throw new IllegalArgumentException(name);
            };
        }

        int sort() {
            return switch (name) {
                case "feed", "end" -> 0;
                case "parlour", "hear" -> 1;
                case "says", "tell", "wear" -> 2;
                case "round", "chance", "deal" -> 3;
                case "undo" -> 4;
                default -> 5;
            };
        }

        long refusal() {
            return List.of("on", "wear", "undo", "seed", "end").contains(name) ? 0 : NONE;
        }

        public String toString() {
            return name + "(" + first + ", " + second + ")" + (tape == null ? "" : " of " + tape.length + " bytes");
        }
    }

    private static Call call(String name, int... with) {
        return new Call(name, with.length > 0 ? with[0] : 0, with.length > 1 ? with[1] : 0, null);
    }

    private static Call call(String name, byte[] tape) {
        return new Call(name, 0, 0, tape);
    }

    private static byte[] bytes(int... of) {
        byte[] b = new byte[of.length];
        for (int k = 0; k < b.length; k++) {
            b[k] = (byte) of[k];
        }
        return b;
    }

    private static byte[] text(String text) {
        return text.getBytes(java.nio.charset.StandardCharsets.ISO_8859_1);
    }

    /** States of an object, made anew each time. */
    private static ForeheadMarks made(int state) {
        switch (state) {
            case 0:
                return new ForeheadMarks();
            case 1:
                return TestKit.with("marks 3;");
            case 2:
                ForeheadMarks x = TestKit.with(THREE);
                x.seed(4711);
                x.tell(2);
                x.image();
                x.wear(2, 1);
                x.says(1);
                x.round();
                x.chance(2);
                TestKit.put(x, 1, 0, 1, 2, 1, 1);
                x.hear();
                return x;
            default:
                return Probe.atRound(THREE, new int[] {1, 3, 5, 7}, 999);
        }
    }

    private static void dueRefused(int state, Call call) {
        ForeheadMarks was = made(state);
        ForeheadMarks x = made(state);
        int[] status = new int[6];
        for (int k = 0; k < 6; k++) {
            status[k] = x.status(k);
        }
        String told = call + " in state " + state;
        TestKit.due(told, call.on(x), call.refusal());
        for (int k = 0; k < 6; k++) {
            TestKit.due("status(" + k + ") behind " + told, x.status(k), status[k] + (k == call.sort() ? 1 : 0));
        }
        TestKit.due("all stays behind " + told, Probe.future(x).equals(Probe.future(was)), true);
    }

    private static void tape() {
        for (int state = 0; state < 4; state++) {
            for (int n : new int[] {-1, LEAST, 31, 1601, GREATEST}) {
                dueRefused(state, new Call("end", n, 0, new byte[30]));
            }
            dueRefused(state, new Call("end", 1, 0, new byte[0]));
            dueRefused(state, new Call("end", 1601, 0, new byte[1600]));
            dueRefused(state, new Call("feed", 0, 0, new byte[1600]));
            dueRefused(state, new Call("feed", 0, 0, new byte[1581]));
        }
        // the bytes of a refused feed are not there
        ForeheadMarks x = new ForeheadMarks();
        String text = "marks 2;guest a wears 1;";
        TestKit.put(x, text + " ".repeat(1581 - text.length()));
        TestKit.due("feed", x.feed(0, 0, 0, 0, 0), NONE);
        TestKit.due("end", x.end(1582), false);
        TestKit.due("parlour", x.parlour(), 2);
    }

    private static void texts() {
        for (int state = 0; state < 4; state++) {
            String[] texts = {"", " ", "x", "marks 1;", "marks 5;", "marks 2", "marks 2;guest a wears 0;guest a", "marks 2;rule (((((((1",
                "marks 2;" + "fact all;".repeat(9), "marks 4;guest a wears 3;slip 3;rule a=2;", "marks 2;" + "slip 1;".repeat(60)};
            for (String text : texts) {
                dueRefused(state, call("parlour", text(text)));
            }
            int[][] heard = {{}, {0}, {0, 0}, {0, 0, 0, 0}, {16, 0, 0}, {255, 0, 0}, {0, 3, 0}, {0, 255, 0}, {0, 0, 2}, {0, 0, 255},
                {0, 0, 1, 0, 0}, {0, 0, 1, 0, 0, 1, 0, 5, 1}};
            for (int[] rows : heard) {
                dueRefused(state, call("hear", bytes(rows)));
            }
            dueRefused(state, call("hear", new byte[49]));
            dueRefused(state, call("hear", new byte[51]));
            if (state < 2) {
                dueRefused(state, call("hear", new byte[3]));
            }
        }
    }

    private static void sayings() {
        for (int state = 0; state < 4; state++) {
            for (int n : new int[] {-1, LEAST, 3, 5, 32, GREATEST}) {
                dueRefused(state, call("says", n));
                dueRefused(state, call("tell", n));
                dueRefused(state, call("wear", n, 0));
                dueRefused(state, call("wear", n, 1));
            }
            for (int n : new int[] {-1, LEAST, 2, 3, 4, GREATEST}) {
                dueRefused(state, call("wear", 0, n));
                dueRefused(state, call("wear", 2, n));
            }
        }
        for (int state = 0; state < 2; state++) {
            dueRefused(state, call("says", 0));
            dueRefused(state, call("tell", 0));
            dueRefused(state, call("wear", 0, 0));
        }
        // worn are 1 1 1 and 1 1 0: what is worn already
        for (int g = 0; g < 3; g++) {
            dueRefused(2, call("wear", g, 1));
        }
        dueRefused(3, call("wear", 0, 1));
        dueRefused(3, call("wear", 2, 0));
        // a RULE would not hold
        ForeheadMarks x = TestKit.with("marks 2;guest a wears 1;guest b wears 0;rule sum=1;");
        TestKit.due("a rule", x.wear(0, 0), false);
        TestKit.due("a rule", x.wear(1, 1), false);
        TestKit.due("refused", x.status(2), 2);
        TestKit.due("acts", x.has(10), 0);
    }

    private static void rounds() {
        dueRefused(0, call("round"));
        dueRefused(0, call("deal"));
        dueRefused(0, call("chance", 1));
        dueRefused(3, call("round"));
        for (int n = 1; n <= 20; n++) {
            dueRefused(3, call("chance", n));
        }
        for (int state = 0; state < 4; state++) {
            for (int n : new int[] {0, -1, LEAST, 21, 999, 1000, GREATEST}) {
                dueRefused(state, call("chance", n));
            }
        }
        // what is refused draws nothing
        ForeheadMarks x = Probe.atRound(THREE, new int[] {3}, 995);
        ForeheadMarks y = Probe.atRound(THREE, new int[] {3}, 995);
        TestKit.due("beyond", x.chance(5), NONE);
        TestKit.due("round", x.has(4), 995);
        TestKit.due("left to the last", x.chance(4), y.chance(4));
        TestKit.due("same draws", x.deal(), y.deal());
    }

    private static void undoneAndSeed() {
        dueRefused(0, call("undo"));
        dueRefused(1, call("undo"));
        dueRefused(3, call("undo"));
        for (int state = 0; state < 4; state++) {
            dueRefused(state, call("seed", -1));
            dueRefused(state, call("seed", LEAST));
        }
        // a refused ACT is none
        ForeheadMarks x = TestKit.with(THREE);
        x.tell(0);
        x.tell(9);
        x.says(9);
        x.wear(0, 1);
        x.chance(0);
        TestKit.due("one act", x.has(10), 1);
        TestKit.due("undo", x.undo(), true);
        TestKit.due("undo", x.undo(), false);
    }

    private static void images() {
        for (int state = 0; state < 4; state++) {
            byte[] good = Probe.imageOf(made(state));
            // this takes an image, so that the state is one with an image on both sides
            for (int at = 0; at < good.length; at++) {
                byte[] spoilt = good.clone();
                spoilt[at] ^= 1;
                dueRefused(state, call("on", spoilt));
            }
            dueRefused(state, call("on", new byte[0]));
            dueRefused(state, call("on", java.util.Arrays.copyOf(good, good.length - 1)));
            dueRefused(state, call("on", java.util.Arrays.copyOf(good, good.length + 1)));
            dueRefused(state, call("on", java.util.Arrays.copyOf(good, 1600)));
        }
        dueRefused(0, call("on", Probe.sealed(0, 0)));
        dueRefused(1, call("on", Probe.sealed(0, 0, 0)));
        dueRefused(1, call("on", Probe.sealed(0, 0, 2)));
        dueRefused(1, call("on", Probe.sealed(0, 0, 3)));
        dueRefused(1, call("on", Probe.sealed(3, 232, 1)));
        dueRefused(1, call("on", Probe.sealed(255, 255, 1)));
        int[][] none = {{3, 232, 1, 1, 0, 254}, {4, 0, 1, 1, 0, 254}, {0, 0, 2, 1, 0, 254}, {0, 0, 1, 1, 255, 254}, {0, 0, 0, 0, 0, 254},
            {0, 0, 1, 1, 0, 255}, {0, 0, 1, 1, 0, 0}, {0, 0, 1, 1, 0, 246}, {0, 0, 0, 0, 0, 1}, {0, 0, 1, 1, 0}, {0, 0, 1, 1, 0, 254, 0}};
        for (int[] ahead : none) {
            dueRefused(2, call("on", Probe.sealed(ahead)));
        }
    }

    /** What stood on the tape behind its end does not count. */
    private static void cutTapes() {
        for (int n = 0; n <= 60; n++) {
            ForeheadMarks x = TestKit.with(THREE);
            for (int k = 0; k < 3; k++) {
                x.feed(0, 0, 0, 0, 0);
            }
            TestKit.due("end", x.end(n), true);
            TestKit.due("hear " + n + " bytes", x.hear(), n % 3 == 0 && n >= 3 && n <= 48 ? n / 3 : NONE);
        }
        String text = "marks 4;guest abcdef wears 3;guest b wears 2;blind b to abcdef;rule abcdef=0003;fact not b<1111;slip 100;";
        for (int n = 0; n <= text.length(); n++) {
            SecondReader want = SecondReader.ofParlour(text.substring(0, n));
            ForeheadMarks x = new ForeheadMarks();
            TestKit.put(x, text);
            TestKit.due("end", x.end(n), true);
            TestKit.due("parlour cut at " + n, x.parlour(), want.fault == 0 ? want.statements : NONE);
            TestKit.due("fault cut at " + n, x.fault(0), want.fault);
            TestKit.due("place cut at " + n, x.fault(1), want.place);
        }
        for (int n = 0; n <= 8; n++) {
            ForeheadMarks x = TestKit.with(THREE);
            byte[] image = Probe.imageOf(x);
            TestKit.put(x, java.util.Arrays.copyOf(image, 20));
            TestKit.due("end", x.end(n), true);
            TestKit.due("on cut at " + n, x.on(), n == image.length);
        }
    }

    /** No image is one of a parlour that there is not, whatever its ROUND. */
    private static void imagesOfNone() {
        for (int round = 0; round <= 1000; round++) {
            ForeheadMarks x = new ForeheadMarks();
            TestKit.due("on() without a parlour at " + round, Probe.onWith(x, Probe.sealed(round / 256, round % 256)), false);
            TestKit.due("refused", x.status(5), 1);
            TestKit.due("all stays", x.has(4), 0);
        }
    }

    /** The bits of ROWS: any of ALL ROWS with THE TRUE ROW, none that a RULE forbids, none that there is not. */
    private static void imageRows() {
        for (int bits = 0; bits < 256; bits++) {
            ForeheadMarks x = TestKit.with("marks 2;guest a wears 1;guest b wears 1;rule sum>0;");
            boolean good = (bits & 0b1000) != 0 && (bits & 0b11110001) == 0;
            TestKit.due("on() with rows " + bits, Probe.onWith(x, Probe.sealed(0, 5, 1, 1, bits)), good);
            TestKit.due("has(4)", x.has(4), good ? 5 : 0);
            TestKit.due("has(5)", x.has(5), good ? Integer.bitCount(bits) : 3);
            TestKit.due("refused", x.status(5), good ? 0 : 1);
        }
        for (int round : new int[] {0, 1, 255, 256, 998, 999, 1000, 1023, 1024, 65535}) {
            ForeheadMarks x = TestKit.with("marks 2;guest a wears 1;");
            boolean good = round <= 999;
            TestKit.due("on() at " + round, Probe.onWith(x, Probe.sealed(round / 256, round % 256, 1, 3)), good);
            TestKit.due("has(4)", x.has(4), good ? round : 0);
        }
        for (int mark = 0; mark < 256; mark++) {
            ForeheadMarks x = TestKit.with("marks 3;guest a wears 1;");
            TestKit.due("on() wearing " + mark, Probe.onWith(x, Probe.sealed(0, 0, mark, 7)), mark < 3);
            TestKit.due("wears", x.guest(0, 0), mark < 3 ? mark : 1);
        }
    }

    /** A question without a parlour: the tape goes, nothing else is done, fault() stays; one with a FAULT is counted nowhere. */
    private static void questions() {
        ForeheadMarks x = new ForeheadMarks();
        TestKit.put(x, "marks 9");
        x.parlour();
        for (String text : new String[] {"", "total 1", "total x", "first all"}) {
            TestKit.due("ask " + text, TestKit.ask(x, text), ForeheadMarks.NOTHING);
            TestKit.due("the tape went", x.end(1), false);
            TestKit.due("fault", x.fault(0), 2);
            TestKit.due("place", x.fault(1), 6);
        }
        for (int k = 1; k < 6; k++) {
            TestKit.due("status", x.status(k), k == 1 ? 1 : 0);
        }
        for (int state = 1; state < 4; state++) {
            ForeheadMarks y = made(state);
            ForeheadMarks was = made(state);
            TestKit.due("ask", TestKit.ask(y, "total"), ForeheadMarks.NOTHING);
            TestKit.due("ask", TestKit.ask(y, "total 1;"), ForeheadMarks.NOTHING);
            for (int k = 0; k < 6; k++) {
                TestKit.due("status", y.status(k), was.status(k));
            }
            TestKit.due("all stays behind a question", Probe.future(y).equals(Probe.future(was)), true);
        }
    }

    /** "The tape (it goes)": taken by parlour(), hear(), ask(), on(), whether they are refused or not. */
    private static void goneTapes() {
        String[] calls = {"parlour", "hear", "on"};
        byte[][] good = {text("marks 2;guest a wears 1;"), bytes(0, 0, 1), Probe.sealed(0, 0, 1, 3)};
        for (int k = 0; k < calls.length; k++) {
            ForeheadMarks x = TestKit.with("marks 2;guest a wears 1;");
            TestKit.due(calls[k], call(calls[k], good[k]).on(x) > 0, true);
            TestKit.due("gone", x.end(1), false);
            TestKit.due(calls[k], call(calls[k], text("?")).on(x) > 0, false);
            TestKit.due("gone", x.end(1), false);
            TestKit.due("nothing is there", call(calls[k]).on(x) > 0, false);
        }
    }

    /** Calls that only ask answer NONE for what there is not, and are counted nowhere. */
    private static void askedInVain() {
        for (int state = 0; state < 4; state++) {
            ForeheadMarks x = made(state);
            int[] status = new int[6];
            for (int k = 0; k < 6; k++) {
                status[k] = x.status(k);
            }
            for (int n : new int[] {-2, LEAST, 1024, GREATEST, -1000}) {
                long[] none = {x.fault(n), x.has(n), x.letter(n, 0), x.letter(0, n), x.guest(n, 0), x.guest(0, n), x.fact(n, 0), x.fact(0, n),
                    x.left(n), x.wears(n, 0), x.wears(0, n), x.kept(n, 0), x.kept(0, n), x.knows(n, 0), x.knows(0, n), x.later(n, 0),
                    x.later(0, n), x.learns(n), x.hints(n), x.secret(n, 0), x.secret(0, n), x.speaker(n), x.slowest(n, 0), x.slowest(0, n),
                    x.odds(n, 0), x.odds(0, n), x.fits(n), x.could(n), x.tells(n), x.octet(n), x.status(n)};
                for (int k = 0; k < none.length; k++) {
                    TestKit.due("question " + k + " with " + n, none[k], NONE);
                }
            }
            for (int k = 0; k < 6; k++) {
                TestKit.due("status", x.status(k), status[k]);
            }
        }
    }

    public static void main(String[] args) {
        tape();
        texts();
        sayings();
        rounds();
        undoneAndSeed();
        images();
        imagesOfNone();
        imageRows();
        cutTapes();
        questions();
        goneTapes();
        askedInVain();
        TestKit.finish();
    }
}
