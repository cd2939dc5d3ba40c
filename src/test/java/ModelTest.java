import java.util.ArrayList;
import java.util.Arrays;
import java.util.List;
import java.util.Random;
import java.util.TreeSet;
import java.util.function.ToLongFunction;

/** Random runs of calls, by a fixed seed, each answer compared with the Model. */
public final class ModelTest {
    private static final String[] NAMES = {"a", "zebra", "first", "mar", "abcdef"};

    private final Random random;
    private final Maker maker;
    private Model model = new Model();
    private ForeheadMarks x = new ForeheadMarks();
    private String text = "";

    private ModelTest(long seed) {
        random = new Random(seed);
        maker = new Maker(random);
    }

    private void due(String call, long got, long want) {
        TestKit.due(call + " with " + text.replace('\n', ' '), got, want);
    }

    private void due(String call, boolean got, boolean want) {
        due(call, got ? 1 : 0, want ? 1 : 0);
    }

    private List<Maker.Word<int[]>> rowWords() {
        List<Maker.Word<int[]>> words = new ArrayList<>();
        for (int g = 0; g < model.guests; g++) {
            int guest = g;
            words.add(new Maker.Word<>(NAMES[g], row -> row[guest]));
            words.add(new Maker.Word<>(NAMES[g], row -> row[guest]));
        }
        words.add(new Maker.Word<>("sum", row -> Arrays.stream(row).sum()));
        words.add(new Maker.Word<>("top", row -> Arrays.stream(row).max().orElse(0)));
        words.add(new Maker.Word<>("low", row -> Arrays.stream(row).min().orElse(0)));
        words.add(new Maker.Word<>("kinds", row -> Arrays.stream(row).distinct().count()));
        return words;
    }

    private ToLongFunction<int[]> rowTest(List<String> pieces) {
        List<Maker.Look<int[]>> looks = List.of((row, n) -> Arrays.stream(row).filter(m -> m == n).count());
        return maker.test(pieces, rowWords(), List.of("count"), looks);
    }

    /** A parlour by which some of the rows fall away, small enough for the Model; behind others on the same object. */
    private void makeParlour(int mostRows) {
        Model before = model;
        model = new Model();
        model.seed = before.seed;
        System.arraycopy(before.refused, 0, model.refused, 0, 6);
        do {
            model.marks = 2 + random.nextInt(3);
            model.guests = random.nextInt(12) == 0 ? 0 : 1 + random.nextInt(5);
        } while (model.rowCount() > mostRows);
        List<String> pieces = Maker.list("marks", "" + model.marks, ";");
        int[] row = new int[model.guests];
        for (int g = 0; g < model.guests; g++) {
            row[g] = random.nextInt(model.marks);
            pieces.addAll(List.of("guest", NAMES[g], "wears", "" + row[g], ";"));
        }
        int statements = 1 + model.guests + addBlind(pieces) + addTests(pieces, row);
        if (random.nextBoolean()) {
            model.slip = random.nextInt(101);
            pieces.addAll(List.of("slip", "7", ";", "slip", "" + model.slip, ";"));
            statements += 2;
        }
        String made = maker.join(pieces);
        if (made.length() > 1600) {
            model = before;
            return;
        }
        // cut short it has a FAULT, and all stays
        TestKit.put(x, made.substring(0, random.nextInt(made.lastIndexOf(';'))).stripTrailing() + "?");
        due("parlour() with a fault", x.parlour(), -1);
        before.refused[1]++;
        model.refused[1]++;
        if (!text.isEmpty()) {
            Model next = model;
            model = before;
            lookAtState();
            model = next;
        }
        text = made;
        model.start(row);
        TestKit.put(x, text);
        due("parlour()", x.parlour(), statements);
    }

    private int addBlind(List<String> pieces) {
        int told = 0;
        model.sees = new int[model.guests];
        int oftenness = random.nextInt(4);
        for (int g = 0; g < model.guests; g++) {
            for (int h = 0; h < model.guests; h++) {
                boolean blind = g != h && random.nextInt(4) < oftenness;
                if (blind) {
                    pieces.addAll(List.of("blind", NAMES[g], "to", NAMES[h], ";"));
                    told++;
                } else if (g != h) {
                    model.sees[g] |= 1 << h;
                }
            }
        }
        return told;
    }

    private int addTests(List<String> pieces, int[] row) {
        int rules = random.nextInt(5);
        for (int k = 0; k < 20 && model.rules.size() < rules; k++) {
            List<String> of = Maker.list("rule");
            ToLongFunction<int[]> test = rowTest(of);
            if (test.applyAsLong(row) != 0) {
                pieces.addAll(of);
                pieces.add(";");
                model.rules.add(test);
            }
        }
        int facts = random.nextInt(9);
        for (int k = 0; k < facts; k++) {
            pieces.add("fact");
            model.facts.add(rowTest(pieces));
            pieces.add(";");
        }
        return model.rules.size() + facts;
    }

    private int anyGuest() {
        return random.nextInt(model.guests + 2) - (random.nextInt(9) == 0 ? 1 : 0);
    }

    private boolean isGuest(int g) {
        return g >= 0 && g < model.guests;
    }

    private void act() {
        int g = anyGuest();
        int n = random.nextInt(24) - 1;
        switch (random.nextInt(9)) {
            case 0, 1 -> due("round()", x.round(), model.round());
            case 2 -> due("says(" + g + ")", x.says(g), model.says(g));
            case 3 -> due("tell(" + n + ")", x.tell(n), model.tell(n));
            case 4 -> due("wear(" + g + ", " + n % 5 + ")", x.wear(g, n % 5), model.wear(g, n % 5));
            case 5 -> due("chance(" + n + ")", x.chance(n), model.chance(n));
            case 6 -> due("deal()", x.deal(), model.deal());
            case 7 -> due("undo()", x.undo(), model.undo());
            default -> {
                int seed = random.nextInt();
                due("seed(" + seed + ")", x.seed(seed), seed >= 0);
                if (seed >= 0) {
                    model.seed = seed;
                } else {
                    model.refused[5]++;
                }
            }
        }
    }

    private void lookAtState() {
        int[] want = {model.marks, model.guests, model.rules.size(), model.facts.size(), model.round, model.left.size(),
            model.all.size(), Integer.bitCount(model.knowers(model.worn, model.left)), Math.min(40, model.kept.size()),
            model.heard.size(), model.undoable()};
        for (int k = 0; k < want.length; k++) {
            due("has(" + k + ")", x.has(k), want[k]);
        }
        int k = 0;
        for (int r : model.left) {
            due("left(" + k + ")", x.left(k), r);
            k++;
        }
        due("left(" + k + ")", x.left(k), -1);
        int told = Math.min(40, model.kept.size());
        for (int e = 0; e < told; e++) {
            for (int w = 0; w < 4; w++) {
                due("kept(" + e + ", " + w + ")", x.kept(e, w), model.kept.get(model.kept.size() - told + e)[w]);
            }
        }
        for (int s = 0; s < 6; s++) {
            due("status(" + s + ")", x.status(s), model.refused[s]);
        }
    }

    private void lookAtGuests() {
        for (int g = 0; g < model.guests; g++) {
            due("guest(" + g + ", 0)", x.guest(g, 0), model.rowOf(model.worn)[g]);
            due("guest(" + g + ", 1)", x.guest(g, 1), model.sees[g]);
            due("guest(" + g + ", 2)", x.guest(g, 2), model.rowsOf(g, model.worn, model.left).size());
            due("guest(" + g + ", 3)", x.guest(g, 3), model.knows(g, model.worn, model.left));
            due("guest(" + g + ", 4)", x.guest(g, 4), model.marksHeld(g, model.worn, model.left));
            for (int h = 0; h < model.guests; h++) {
                due("knows(" + g + ", " + h + ")", x.knows(g, h), g == h ? -1 : model.knowsOf(g, h));
            }
        }
        due("deep()", x.deep(), model.deep());
        for (int f = 0; f < model.facts.size(); f++) {
            due("fact(" + f + ", 0)", x.fact(f, 0), model.holds(f, model.worn));
            due("fact(" + f + ", 1)", x.fact(f, 1), model.afterFacts(1 << f).size());
            due("fact(" + f + ", 2)", x.fact(f, 2), model.countHolding(f));
        }
    }

    private void due(String call, int got, boolean want) {
        due(call, got, want ? 1 : 0);
    }

    private void lookAhead() {
        int n = random.nextInt(21);
        for (int g = 0; g < model.guests; g++) {
            due("later(" + g + ", " + n + ")", x.later(g, n), model.knowsLater(g, n));
            due("later(" + g + ", 1)", x.later(g, 1), model.knowsLater(g, 1));
            due("learns(" + g + ")", x.learns(g), model.learns(g));
            due("hints(" + g + ")", x.hints(g), model.fewestFacts(g, -1));
            int h = anyGuest();
            int want = isGuest(h) && h != g ? model.fewestFacts(g, h) : -1;
            due("secret(" + g + ", " + h + ")", x.secret(g, h), want);
        }
        due("rests()", x.rests(), model.rests());
        int s = model.speaker();
        due("speaker(0)", x.speaker(0), s);
        due("speaker(1)", x.speaker(1), s < 0 ? -1 : model.afterSaying(s).size());
    }

    private void lookAnew() {
        for (int g = 0; g < model.guests; g++) {
            int row = model.slowest(g);
            due("slowest(" + g + ", 0)", x.slowest(g, 0), row);
            due("slowest(" + g + ", 1)", x.slowest(g, 1), row < 0 ? -1 : model.firstAnew(g, row));
            for (int n = 0; n < 4; n++) {
                due("odds(" + g + ", " + n + ")", x.odds(g, n), model.odds(g, n));
            }
            due("odds(" + g + ", 20)", x.odds(g, 20), model.odds(g, 20));
        }
        hearSome();
        TreeSet<Integer> fits = model.fits();
        due("fits(-1)", x.fits(-1), fits.size());
        int k = 0;
        for (int r : fits) {
            due("fits(" + k + ")", x.fits(k), r);
            k++;
        }
        due("fits(" + k + ")", x.fits(k), -1);
        for (int g = 0; g < model.guests; g++) {
            int bits = 0;
            for (int r : fits) {
                bits |= 1 << model.rowOf(r)[g];
            }
            due("could(" + g + ")", x.could(g), bits);
        }
        int[] tells = fits.isEmpty() ? null : model.tells();
        for (int w = 0; w < 3; w++) {
            due("tells(" + w + ")", x.tells(w), tells == null ? -1 : tells[w]);
        }
    }

    private void hearSome() {
        int size = random.nextInt(3);
        if (size == 0 || model.guests == 0) {
            return;
        }
        List<int[]> heard = new ArrayList<>();
        byte[] bytes = new byte[3 * size];
        for (int k = 0; k < size; k++) {
            int[] h = {random.nextInt(3), random.nextInt(model.guests), random.nextInt(2)};
            heard.add(h);
            for (int b = 0; b < 3; b++) {
                bytes[3 * k + b] = (byte) h[b];
            }
        }
        TestKit.put(x, bytes);
        due("hear()", x.hear(), size);
        model.heard = heard;
    }

    private List<Maker.Word<Integer>> guestWords() {
        List<Maker.Word<Integer>> words = new ArrayList<>();
        words.add(new Maker.Word<>("number", g -> g));
        words.add(new Maker.Word<>("mark", g -> model.rowOf(model.worn)[g]));
        words.add(new Maker.Word<>("rows", g -> model.rowsOf(g, model.worn, model.left).size()));
        words.add(new Maker.Word<>("knows", g -> model.knows(g, model.worn, model.left) ? 1 : 0));
        words.add(new Maker.Word<>("round", g -> model.round));
        return words;
    }

    private void askSome() {
        List<Maker.Look<Integer>> looks = List.of(
            (g, n) -> n >= 0 && n < 31 && (model.sees[g] >> n & 1) != 0 ? 1 : 0,
            (g, n) -> n >= 0 && n < 31 && (model.marksHeld(g, model.worn, model.left) >> n & 1) != 0 ? 1 : 0);
        List<String> names = List.of("sees", "could");
        String word = List.of("first", "last", "often", "total", "most", "least").get(random.nextInt(6));
        List<String> pieces = Maker.list(word);
        ToLongFunction<Integer> value = "first last often".contains(word)
            ? maker.test(pieces, guestWords(), names, looks) : maker.sum(pieces, guestWords(), names, looks);
        String question = maker.join(pieces);
        if (question.length() > 1600) {
            return;
        }
        long want = "first last".contains(word) ? -1 : 0;
        for (int g = 0; g < model.guests; g++) {
            long v = value.applyAsLong(g);
            switch (word) {
                case "first" -> want = want < 0 && v != 0 ? g : want;
                case "last" -> want = v != 0 ? g : want;
                case "often" -> want += v;
                case "total" -> want += v;
                case "most" -> want = g == 0 ? v : Math.max(want, v);
                default -> want = g == 0 ? v : Math.min(want, v);
            }
        }
        due("ask() of " + question, TestKit.ask(x, question), want);
    }

    private void lookAtImage() {
        byte[] image = model.image();
        due("image()", x.image(), image.length);
        for (int k = 0; k < image.length; k++) {
            due("octet(" + k + ")", x.octet(k), image[k] & 255);
        }
        if (random.nextInt(4) != 0) {
            return;
        }
        if (random.nextBoolean()) {
            image[random.nextInt(image.length)] ^= 1 << random.nextInt(8);
            TestKit.put(x, image);
            due("on() of a spoilt image", x.on(), false);
            model.refused[5]++;
            return;
        }
        ForeheadMarks y = TestKit.with(text);
        TestKit.put(y, image);
        due("on()", y.on(), true);
        // the one that went on takes the place of the first, with a new tally of refusals, the same seed
        due("seed", y.seed((int) model.seed), true);
        x = y;
        model.forgetPast();
        model.heard.clear();
        Arrays.fill(model.refused, 0);
    }

    private void run(int mostRows, boolean large) {
        for (int k = 0; k < 3; k++) {
            makeParlour(mostRows);
            if (!text.isEmpty()) {
                play(large);
            }
        }
    }

    private void play(boolean large) {
        for (int step = 0; step < 20; step++) {
            int acts = random.nextInt(4);
            for (int k = 0; k < acts; k++) {
                act();
            }
            switch (random.nextInt(large ? 4 : 6)) {
                case 0 -> lookAtState();
                case 1 -> lookAtGuests();
                case 2 -> lookAtImage();
                case 3 -> askSome();
                case 4 -> lookAhead();
                default -> {
                    if (step < 10) {
                        lookAnew();
                    }
                }
            }
        }
        lookAtState();
    }

    /**
     * a and d tell q, b and c tell p, and q is p or p + 1, but all four where both are above 13: a, who sees p, and b, who
     * sees q, come to know from the lower end on, a step a ROUND, up to where nobody ever does: beyond 20 ROUNDS.
     */
    private void runLong(int p, int q) {
        model.marks = 4;
        model.guests = 4;
        model.sees = new int[] {1 << 1 | 1 << 2, 1 | 1 << 3, 0, 0};
        model.rules.add(row -> {
            int above = row[0] + 4 * row[3] - row[1] - 4 * row[2];
            return above == 0 || above == 1 || row[0] + 4 * row[3] > 13 && row[1] + 4 * row[2] > 13 ? 1 : 0;
        });
        text = Texts.chain(p, q);
        model.start(new int[] {q % 4, p % 4, p / 4, q / 4});
        TestKit.put(x, text);
        due("parlour()", x.parlour(), 14);
        for (int k = 0; k < 3; k++) {
            due("rests()", x.rests(), model.rests());
            for (int g = 0; g < 4; g++) {
                due("learns(" + g + ")", x.learns(g), model.learns(g));
                for (int n = 15; n <= 20; n++) {
                    due("later(" + g + ", " + n + ")", x.later(g, n), model.knowsLater(g, n));
                }
            }
            due("round()", x.round(), model.round());
        }
        if (p == q && p % 5 == 0) {
            lookAnew();
        }
    }

    private static void runsLong() {
        int never = 0;
        int last = 0;
        for (int p = 0; p < 16; p++) {
            for (int q = p; q <= p + 1 && q < 16; q++) {
                ModelTest test = new ModelTest(p);
                test.runLong(p, q);
                test.x.undo();
                test.x.undo();
                test.x.undo();
                never += test.x.rests() < 0 ? 1 : 0;
                last += test.x.rests() == 20 || test.x.learns(0) == 20 || test.x.learns(1) == 20 ? 1 : 0;
            }
        }
        TestKit.due("some long runs do not rest by 20", never > 0, true);
        TestKit.due("some long runs end at 20", last > 0, true);
    }

    public static void main(String[] args) {
        int runs = args.length > 0 ? Integer.parseInt(args[0]) : 80;
        runsLong();
        for (int seed = 0; seed < runs && TestKit.wrongSoFar() < 20; seed++) {
            new ModelTest(seed).run(seed % 10 == 0 ? 81 : 27, false);
        }
        for (int seed = 0; seed < runs / 40 && TestKit.wrongSoFar() < 20; seed++) {
            new ModelTest(1000000 + seed).run(256, true);
        }
        TestKit.finish();
    }
}
