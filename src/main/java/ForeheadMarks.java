/**
 * On one's own forehead: a parlour of guests who see the marks of others and not their own, and
 * what all of them come to know by what is said aloud. The document ../shared/DOC.md tells the
 * words in capitals that the comments use.
 */
public final class ForeheadMarks {

    /** There is none; it is refused. */
    public static final int NONE = -1;

    /** Told where a number below 0 may be one. */
    public static final long NOTHING = -1000000000000000L;

    private static final int MAX_TAPE = 1600;
    private static final int MAX_STATEMENTS = 60;
    private static final int MAX_GUESTS = 5;
    private static final int MAX_RULES = 4;
    private static final int MAX_FACTS = 8;
    private static final int MAX_SLIP = 100;
    private static final int MAX_NAME = 6;
    private static final int MAX_DIGITS = 4;
    private static final int MAX_OPEN = 6;
    private static final int MAX_ROWS = 1024;
    private static final int MAX_ROUND = 999;
    private static final int MAX_AHEAD = 20;
    private static final int MAX_DEEP = 9;
    private static final int MAX_HEARD = 16;
    private static final int HEARD_ROUNDS = 16;
    private static final int MAX_KEPT = 40;
    private static final int MAX_UNDO = 20;
    private static final int MAX_HELD = 1000000;
    private static final int MAX_IMAGE = 2 + MAX_GUESTS + MAX_ROWS / 8 + 1;

    /** Later than any number of ROUNDS that is looked at. */
    private static final int NEVER = 99;

    private static final int FAULT_TEXT = 1;
    private static final int FAULT_NUMBER = 2;
    private static final int FAULT_NAME = 3;
    private static final int FAULT_OPEN = 4;
    private static final int FAULT_MANY = 5;
    private static final int FAULT_RULE = 6;

    private static final int REFUSED_TAPE = 0;
    private static final int REFUSED_TEXT = 1;
    private static final int REFUSED_SAYING = 2;
    private static final int REFUSED_ROUND = 3;
    private static final int REFUSED_UNDO = 4;
    private static final int REFUSED_STATE = 5;
    private static final int REFUSED_SORTS = 6;

    private static final int KEPT_ROUND = 0;
    private static final int KEPT_SAYS = 1;
    private static final int KEPT_FACT = 2;

    /** The OWN WORDS, and behind them the words by which a QUESTION begins; W_... are their numbers. */
    private static final String WORDS = "marks guest wears blind to rule fact slip sum top low kinds count number mark rows knows round sees could or and not all min max first last often total most least ";
    private static final int OWN_WORDS = 26;
    private static final int W_MARKS = 0;
    private static final int W_GUEST = 1;
    private static final int W_WEARS = 2;
    private static final int W_BLIND = 3;
    private static final int W_TO = 4;
    private static final int W_RULE = 5;
    private static final int W_FACT = 6;
    private static final int W_SLIP = 7;
    private static final int W_SUM = 8;
    private static final int W_TOP = 9;
    private static final int W_LOW = 10;
    private static final int W_KINDS = 11;
    private static final int W_COUNT = 12;
    private static final int W_NUMBER = 13;
    private static final int W_MARK = 14;
    private static final int W_ROWS = 15;
    private static final int W_KNOWS = 16;
    private static final int W_ROUND = 17;
    private static final int W_SEES = 18;
    private static final int W_COULD = 19;
    private static final int W_OR = 20;
    private static final int W_AND = 21;
    private static final int W_NOT = 22;
    private static final int W_ALL = 23;
    private static final int W_MIN = 24;
    private static final int W_MAX = 25;
    private static final int W_FIRST = 26;
    private static final int W_LAST = 27;
    private static final int W_OFTEN = 28;
    private static final int W_TOTAL = 29;
    private static final int W_MOST = 30;
    private static final int W_LEAST = 31;
    private static final int NO_WORD = 99;

    private static final int OP_PUSH = 0;
    private static final int OP_LEAF = 1;
    private static final int OP_LOOK = 2;
    private static final int OP_NOT = 3;
    private static final int OP_ADD = 4;
    private static final int OP_SUB = 5;
    private static final int OP_MUL = 6;
    private static final int OP_DIV = 7;
    private static final int OP_MIN = 8;
    private static final int OP_MAX = 9;
    private static final int OP_LESS = 10;
    private static final int OP_MORE = 11;
    private static final int OP_SAME = 12;
    private static final int OP_AND = 13;
    private static final int OP_OR = 14;

    /** Where the leaves of a Sheet stand: the MARKS of the GUESTS come first, then the words from W_SUM on. */
    private static final int LEAF_WORDS = MAX_GUESTS - W_SUM;
    private static final int LEAF_COUNT = 15;
    private static final int LEAF_SEES = 20;
    private static final int LEAF_COULD = 25;
    private static final int LEAVES = 30;

    private final Cells tape = new Cells(MAX_TAPE);
    private int tapeLength;
    private final Reader reader = new Reader();
    private final Code question = new Code();
    private final Grammar grammar = new Grammar(reader, question);
    private final Sheet sheet = new Sheet();
    private Parlour current = new Parlour(reader, grammar);
    private Parlour spare = new Parlour(reader, grammar);
    private boolean told;
    private final Rows rows = new Rows();
    private final Game game = new Game(rows);
    private final Anew anew = new Anew(rows);
    private final Journal journal = new Journal();
    private final Cells picture = new Cells(MAX_IMAGE);
    private int pictureLength;
    private final Cells refusals = new Cells(REFUSED_SORTS);
    private int dice = 1;
    private int latestFault;
    private int latestPlace = NONE;

    public ForeheadMarks() {
    }

    // ---- the tape

    public int feed(int a, int b, int c, int d, int e) {
        if (tapeLength + 20 > MAX_TAPE) {
            return refuse(REFUSED_TAPE);
        }
        putFour(a);
        putFour(b);
        putFour(c);
        putFour(d);
        putFour(e);
        return tapeLength;
    }

    private void putFour(int number) {
        for (int shift = 24; shift >= 0; shift -= 8) {
            tape.put(tapeLength, (number >>> shift) & 255);
            tapeLength++;
        }
    }

    public boolean end(int n) {
        if (n < 0 || n > tapeLength) {
            refuse(REFUSED_TAPE);
            return false;
        }
        tapeLength = n;
        return true;
    }

    private int takeTape() {
        int length = tapeLength;
        tapeLength = 0;
        return length;
    }

    private int refuse(int sort) {
        refusals.put(sort, refusals.get(sort) + 1);
        return NONE;
    }

    // ---- the parlour

    public int parlour() {
        spare.open(tape, takeTape());
        for (int n = 0; n <= MAX_STATEMENTS && reader.isGoingOn(); n++) {
            spare.readStatement();
        }
        spare.close(sheet);
        noteFault();
        if (latestFault != 0) {
            return refuse(REFUSED_TEXT);
        }
        Parlour old = current;
        current = spare;
        spare = old;
        told = true;
        rows.build(current, sheet);
        game.begin(current.worn);
        anew.forget();
        journal.wipe();
        return current.statements;
    }

    private void noteFault() {
        latestFault = reader.fault;
        latestPlace = reader.fault == 0 ? NONE : reader.place;
    }

    public int fault(int what) {
        switch (what) {
            case 0:
                return latestFault;
            case 1:
                return latestPlace;
            default:
                return NONE;
        }
    }

    public int has(int what) {
        switch (what) {
            case 0:
                return current.marks;
            case 1:
                return rows.guests;
            case 2:
                return current.rules;
            case 3:
                return rows.facts;
            case 4:
                return game.rounds;
            case 5:
                return game.leftCount;
            case 6:
                return rows.allCount;
            case 7:
                return Integer.bitCount(game.knowers());
            case 8:
                return journal.toldCount();
            case 9:
                return anew.heardCount;
            case 10:
                return journal.savedCount;
            default:
                return NONE;
        }
    }

    private boolean isGuest(int guest) {
        return guest >= 0 && guest < rows.guests;
    }

    private boolean isFact(int fact) {
        return fact >= 0 && fact < rows.facts;
    }

    private boolean isPair(int guest, int other) {
        return isGuest(guest) && isGuest(other) && guest != other;
    }

    private static int one(boolean holds) {
        return holds ? 1 : 0;
    }

    public int letter(int guest, int k) {
        if (!isGuest(guest) || k < 0 || k >= MAX_NAME) {
            return NONE;
        }
        return (current.names.get(guest) >> (5 * k)) & 31;
    }

    public int guest(int guest, int what) {
        if (!isGuest(guest)) {
            return NONE;
        }
        switch (what) {
            case 0:
                return rows.markOf(game.worn, guest);
            case 1:
                return rows.sees.get(guest);
            case 2:
                return game.countRowsOf(guest);
            case 3:
                return one(game.isKnower(guest));
            case 4:
                return game.marksHeld(guest);
            default:
                return NONE;
        }
    }

    public int fact(int fact, int what) {
        if (!isFact(fact)) {
            return NONE;
        }
        switch (what) {
            case 0:
                return one(rows.holdsIn(game.worn, fact));
            case 1:
                return game.countAlike(rows.truths, 1 << fact);
            case 2:
                return rows.countHolding(fact);
            default:
                return NONE;
        }
    }

    public int left(int k) {
        return k >= 0 && k < game.leftCount ? game.leftRows.get(k) : NONE;
    }

    public int wears(int row, int guest) {
        if (!isGuest(guest) || row < 0 || row >= rows.count) {
            return NONE;
        }
        return rows.markOf(row, guest);
    }

    public int kept(int k, int what) {
        if (k < 0 || k >= journal.toldCount() || what < 0 || what > 3) {
            return NONE;
        }
        return journal.entry(k, what);
    }

    // ---- who knows of whom

    public int knows(int guest, int other) {
        return isPair(guest, other) ? game.knowsOf(guest, other) : NONE;
    }

    public int deep() {
        return told ? game.depth() : NONE;
    }

    // ---- ahead

    public int later(int guest, int n) {
        if (!isGuest(guest) || n < 0 || n > MAX_AHEAD) {
            return NONE;
        }
        return one(game.lookAhead().firstKnown.get(guest) <= n);
    }

    public int learns(int guest) {
        if (!isGuest(guest)) {
            return NONE;
        }
        int first = game.lookAhead().firstKnown.get(guest);
        return first <= MAX_AHEAD ? first : NONE;
    }

    public int rests() {
        if (!told) {
            return NONE;
        }
        int first = game.lookAhead().firstRest;
        return first <= MAX_AHEAD ? first : NONE;
    }

    // ---- hints, secrets, speakers

    public int hints(int guest) {
        return isGuest(guest) ? game.fewestFacts(guest, NONE) : NONE;
    }

    public int secret(int guest, int from) {
        return isPair(guest, from) ? game.fewestFacts(guest, from) : NONE;
    }

    public int speaker(int what) {
        int best = game.bestSpeaker();
        if (best == NONE || what < 0 || what > 1) {
            return NONE;
        }
        return what == 0 ? best : game.countAlike(game.known, 1 << best);
    }

    // ---- anew

    public int slowest(int guest, int what) {
        if (!isGuest(guest) || what < 0 || what > 1) {
            return NONE;
        }
        anew.prepare();
        int row = anew.slowestRow(guest);
        if (row == NONE || what == 0) {
            return row;
        }
        return anew.firstKnown(row, guest);
    }

    public int odds(int guest, int n) {
        if (!isGuest(guest) || n < 0 || n > MAX_AHEAD) {
            return NONE;
        }
        anew.prepare();
        return anew.countKnowing(guest, n);
    }

    // ---- what was heard

    public int hear() {
        int length = takeTape();
        if (!anew.listen(tape, length)) {
            return refuse(REFUSED_TEXT);
        }
        return anew.heardCount;
    }

    public int fits(int k) {
        if (!told || k < NONE) {
            return NONE;
        }
        anew.findFitting();
        if (k == NONE) {
            return anew.fittingCount;
        }
        return k < anew.fittingCount ? anew.fitting.get(k) : NONE;
    }

    public int could(int guest) {
        if (!isGuest(guest)) {
            return NONE;
        }
        anew.findFitting();
        return anew.marksFitting(guest);
    }

    public int tells(int what) {
        if (rows.guests == 0 || what < 0 || what > 2) {
            return NONE;
        }
        anew.findFitting();
        if (anew.fittingCount == 0) {
            return NONE;
        }
        int best = anew.bestTelling();
        switch (what) {
            case 0:
                return best / MAX_GUESTS;
            case 1:
                return best % MAX_GUESTS;
            default:
                return anew.mostLeft(best / MAX_GUESTS, best % MAX_GUESTS);
        }
    }

    // ---- acts

    public int round() {
        if (!told || game.rounds >= MAX_ROUND) {
            return refuse(REFUSED_ROUND);
        }
        journal.save(game);
        return playRound(NONE);
    }

    /** A ROUND in which one (or NONE) is not heard: the bits of those who are heard to KNOW. */
    private int playRound(int unheard) {
        int all = (1 << rows.guests) - 1;
        int mask = unheard == NONE ? all : all & ~(1 << unheard);
        int said = game.knowers() & mask;
        game.keepAlike(game.known, mask);
        game.rounds++;
        journal.write(KEPT_ROUND, 0, said, game.leftCount);
        return said;
    }

    public int says(int guest) {
        if (!isGuest(guest)) {
            return refuse(REFUSED_SAYING);
        }
        journal.save(game);
        int said = one(game.isKnower(guest));
        game.keepAlike(game.known, 1 << guest);
        journal.write(KEPT_SAYS, guest, said, game.leftCount);
        return said;
    }

    public int tell(int fact) {
        if (!isFact(fact)) {
            return refuse(REFUSED_SAYING);
        }
        journal.save(game);
        int said = one(rows.holdsIn(game.worn, fact));
        game.keepAlike(rows.truths, 1 << fact);
        journal.write(KEPT_FACT, fact, said, game.leftCount);
        return said;
    }

    public boolean wear(int guest, int mark) {
        int row = isGuest(guest) ? rows.withMark(game.worn, guest, mark) : NONE;
        if (row == NONE || row == game.worn || !rows.isAllowed(row)) {
            refuse(REFUSED_SAYING);
            return false;
        }
        journal.save(game);
        game.begin(row);
        return true;
    }

    public int chance(int n) {
        if (!told || n < 1 || n > MAX_AHEAD || game.rounds + n > MAX_ROUND) {
            return refuse(REFUSED_ROUND);
        }
        journal.save(game);
        int times = 0;
        for (int k = 0; k < n; k++) {
            int unheard = NONE;
            if (draw(100) < current.slip && rows.guests > 0) {
                unheard = draw(rows.guests);
                times++;
            }
            playRound(unheard);
        }
        return times;
    }

    public int deal() {
        if (!told) {
            return refuse(REFUSED_ROUND);
        }
        journal.save(game);
        game.begin(rows.all.get(draw(rows.allCount)));
        return game.worn;
    }

    private int draw(int m) {
        dice = (1103515245 * dice + 12345) & 0x7FFFFFFF;
        return m > 0 ? dice / 64 % m : 0;
    }

    public boolean undo() {
        if (!journal.restore(game)) {
            refuse(REFUSED_UNDO);
            return false;
        }
        return true;
    }

    public boolean seed(int seed) {
        if (seed < 0) {
            refuse(REFUSED_STATE);
            return false;
        }
        dice = seed;
        return true;
    }

    // ---- questions

    public long ask() {
        int length = takeTape();
        if (!told) {
            return NOTHING;
        }
        question.size = 0;
        reader.open(tape, length);
        int word = grammar.readQuestion(question, current);
        noteFault();
        return latestFault == 0 ? answer(word) : NOTHING;
    }

    private long answer(int word) {
        int first = NONE;
        int last = NONE;
        int often = 0;
        long total = 0;
        int most = 0;
        int least = 0;
        for (int guest = 0; guest < rows.guests; guest++) {
            sheet.fillFromGuest(game, guest);
            int value = sheet.value(question, 0, question.size);
            if (value != 0) {
                first = first == NONE ? guest : first;
                last = guest;
                often++;
            }
            total += value;
            most = guest == 0 ? value : Math.max(most, value);
            least = guest == 0 ? value : Math.min(least, value);
        }
        switch (word) {
            case W_FIRST:
                return first;
            case W_LAST:
                return last;
            case W_OFTEN:
                return often;
            case W_TOTAL:
                return total;
            case W_MOST:
                return most;
            default:
                return least;
        }
    }

    // ---- images, refusals

    public int image() {
        picture.wipe();
        picture.put(0, game.rounds >> 8);
        picture.put(1, game.rounds & 255);
        for (int guest = 0; guest < rows.guests; guest++) {
            picture.put(2 + guest, rows.markOf(game.worn, guest));
        }
        int base = 2 + rows.guests;
        for (int k = 0; k < game.leftCount; k++) {
            int row = game.leftRows.get(k);
            int at = base + (row >> 3);
            picture.put(at, picture.get(at) | 1 << (row & 7));
        }
        pictureLength = pictureSize();
        picture.put(pictureLength - 1, checkByte(picture, pictureLength - 1));
        return pictureLength;
    }

    private int pictureSize() {
        return 2 + rows.guests + (rows.count + 7) / 8 + 1;
    }

    private static int checkByte(Cells bytes, int length) {
        int c = 197;
        for (int k = 0; k < length; k++) {
            c = (3 * c + bytes.get(k)) % 251;
        }
        return c;
    }

    public int octet(int k) {
        return k >= 0 && k < pictureLength ? picture.get(k) : NONE;
    }

    public boolean on() {
        int length = takeTape();
        int row = told ? rowOfPicture(length) : NONE;
        if (row == NONE || !isLeftFitting(row)) {
            refuse(REFUSED_STATE);
            return false;
        }
        game.leftCount = 0;
        for (int k = 0; k < rows.count; k++) {
            if (tapeBit(k)) {
                game.leftRows.put(game.leftCount, k);
                game.leftCount++;
            }
        }
        game.rounds = tape.get(0) * 256 + tape.get(1);
        game.worn = row;
        game.settle();
        journal.wipe();
        return true;
    }

    /** The ROW that an IMAGE on the tape tells as worn; NONE if its frame, ROUND or MARKS can't be. */
    private int rowOfPicture(int length) {
        if (length != pictureSize() || tape.get(length - 1) != checkByte(tape, length - 1)) {
            return NONE;
        }
        int row = tape.get(0) * 256 + tape.get(1) <= MAX_ROUND ? 0 : NONE;
        for (int guest = 0; guest < rows.guests && row != NONE; guest++) {
            row = rows.withMark(row, guest, tape.get(2 + guest));
        }
        return row;
    }

    private boolean isLeftFitting(int row) {
        int bits = (rows.count + 7) / 8 * 8;
        for (int k = 0; k < bits; k++) {
            if (tapeBit(k) && !rows.isAllowed(k)) {
                return false;
            }
        }
        return tapeBit(row);
    }

    private boolean tapeBit(int row) {
        return (tape.get(2 + rows.guests + (row >> 3)) >> (row & 7) & 1) != 0;
    }

    public int status(int what) {
        return what >= 0 && what < REFUSED_SORTS ? refusals.get(what) : NONE;
    }

    /** Numbers by index, where an index outside reads 0 and writes nothing, so that no index can throw. */
    private static final class Cells {
        private final int[] cell;

        Cells(int size) {
            cell = new int[Math.max(size, 0)];
        }

        int get(int k) {
            return k >= 0 && k < cell.length ? cell[k] : 0;
        }

        void put(int k, int value) {
            if (k >= 0 && k < cell.length) {
                cell[k] = value;
            }
        }

        void wipe() {
            for (int k = 0; k < cell.length; k++) {
                cell[k] = 0;
            }
        }
    }

    /** Cuts a text into pieces (words, numbers, signs), goes along them, and holds the first FAULT. */
    private static final class Reader {
        static final int END = 0;
        static final int WORD = 1;
        static final int NUMBER = 2;
        static final int SIGN = 3;
        /** A piece that is asked for nowhere, so that whoever meets it finds a FAULT there. */
        static final int STRAY = 4;

        /** Of each piece five cells: where it begins, where it ends, its kind, its value, the number of its word. */
        private static final int WIDTH = 5;

        private final Cells pieces = new Cells(WIDTH * MAX_TAPE);
        private int pieceCount;
        private int next;
        private int length;
        private int kind;
        private int to;
        /** Of a word its letters, packed; of a number what it is; of a sign its byte. */
        private int value;
        private int word;
        /** Where the piece begins. */
        int from;
        int fault;
        int place;

        /** All pieces are cut at once, so that the calls that go along them stay few. */
        void open(Cells text, int newLength) {
            length = newLength;
            fault = 0;
            place = NONE;
            pieceCount = 0;
            next = 0;
            int at = 0;
            for (int n = 0; n < MAX_TAPE && at < length; n++) {
                boolean blank = text.get(at) == 10 || text.get(at) == 32;
                at = blank ? at + 1 : cutPiece(text, at);
            }
            advance();
        }

        /** Notes the piece that begins there, and answers where it ends. */
        private int cutPiece(Cells text, int at) {
            int sort = sortOf(text.get(at));
            int end = at + 1;
            while (end < length && sort != SIGN && sortOf(text.get(end)) == sort) {
                end++;
            }
            int base = WIDTH * pieceCount;
            boolean joined = pieces.get(base - WIDTH + 1) == at && pieces.get(base - WIDTH + 2) != SIGN;
            boolean stray = pieceCount > 0 && joined && sort != SIGN;
            int letters = sort == WORD ? packLetters(text, at, end) : 0;
            pieces.put(base, at);
            pieces.put(base + 1, end);
            pieces.put(base + 2, stray ? STRAY : sort);
            pieces.put(base + 3, sort == WORD ? letters : sort == NUMBER ? numberOf(text, at, end) : text.get(at));
            pieces.put(base + 4, sort == WORD ? wordNumber(letters) : NO_WORD);
            pieceCount++;
            return end;
        }

        private static int sortOf(int c) {
            if (c >= 'a' && c <= 'z') {
                return WORD;
            }
            return c >= '0' && c <= '9' ? NUMBER : SIGN;
        }

        /** The letters of a word of up to six, five bits each; 0 for a longer one. */
        private static int packLetters(Cells text, int start, int end) {
            int packed = 0;
            for (int k = start; k < end && end - start <= MAX_NAME; k++) {
                packed |= (text.get(k) - 'a' + 1) << (5 * (k - start));
            }
            return packed;
        }

        /** Of more digits than a number may have the first ones alone. */
        private static int numberOf(Cells text, int start, int end) {
            int number = 0;
            for (int k = start; k < end && k - start < MAX_DIGITS; k++) {
                number = number * 10 + text.get(k) - '0';
            }
            return number;
        }

        private static int wordNumber(int packed) {
            int number = 0;
            int built = 0;
            int shift = 0;
            for (int k = 0; k < WORDS.length(); k++) {
                char c = WORDS.charAt(k);
                if (c == ' ') {
                    if (built == packed) {
                        return number;
                    }
                    number++;
                    built = 0;
                    shift = 0;
                } else {
                    built |= (c - 'a' + 1) << shift;
                    shift += 5;
                }
            }
            return NO_WORD;
        }

        /** Behind a FAULT nothing is read any more, so that the first one stays. */
        void fail(int code, int at) {
            if (fault == 0) {
                fault = code;
                place = at;
                kind = STRAY;
            }
        }

        void failHere() {
            fail(FAULT_TEXT, from);
        }

        void failAtEnd(int code) {
            fail(code, length);
        }

        void advance() {
            if (fault != 0) {
                return;
            }
            if (next >= pieceCount) {
                kind = END;
                from = length;
                to = length;
                return;
            }
            int base = WIDTH * next;
            from = pieces.get(base);
            to = pieces.get(base + 1);
            kind = pieces.get(base + 2);
            value = pieces.get(base + 3);
            word = pieces.get(base + 4);
            next++;
        }

        boolean isEnd() {
            return kind == END;
        }

        /** Whether there is more of the text to be read, and no FAULT yet. */
        boolean isGoingOn() {
            return kind != END && fault == 0;
        }

        boolean isWord(int number) {
            return kind == WORD && word == number;
        }

        boolean isNumber() {
            return kind == NUMBER;
        }

        boolean isSign(char c) {
            return kind == SIGN && value == c;
        }

        /** The number of the word that stands here; NO_WORD for other words and pieces. */
        int wordHere() {
            return kind == WORD ? word : NO_WORD;
        }

        /** The letters of the word that stands here, packed; 0, which is no NAME, for over six and for other pieces. */
        int lettersHere() {
            return kind == WORD ? value : 0;
        }

        void takeWord(int number) {
            if (!isWord(number)) {
                failHere();
            }
            advance();
        }

        void takeSign(char c) {
            if (!isSign(c)) {
                failHere();
            }
            advance();
        }

        /** A number of up to four digits; what it answers behind a FAULT does not count. */
        int takeNumber() {
            if (kind != NUMBER) {
                failHere();
            }
            if (to - from > MAX_DIGITS) {
                fail(FAULT_TEXT, from + MAX_DIGITS);
            }
            int number = value;
            advance();
            return number;
        }

        /** A number from low to high. */
        int takeNumberWithin(int low, int high) {
            int at = from;
            int number = takeNumber();
            if (number < low || number > high) {
                fail(FAULT_NUMBER, at);
            }
            return number;
        }

        /** The letters of a NAME, packed; it does not look who bears it. */
        int takeName() {
            if (kind != WORD || word < OWN_WORDS) {
                failHere();
            }
            if (to - from > MAX_NAME) {
                fail(FAULT_TEXT, from + MAX_NAME);
            }
            int name = value;
            advance();
            return name;
        }
    }

    /** TESTS and SUMS as steps for a stack, one number a step: the work and, above it, what it works with. */
    private static final class Code {
        final Cells steps = new Cells(MAX_TAPE);
        int size;

        void add(int op, int with) {
            steps.put(size, op | with << 4);
            size = Math.min(size + 1, MAX_TAPE);
        }
    }

    /** Reads TESTS and SUMS, of a PARLOUR or of a QUESTION, into Code. */
    private static final class Grammar {
        private final Reader reader;
        private Code code;
        private Parlour names;
        private boolean asking;
        /** How many of ( [ not count sees could are open; it bounds the depth of the methods below. */
        private int open;

        Grammar(Reader reader, Code code) {
            this.reader = reader;
            this.code = code;
        }

        /** The word by which the QUESTION begins. */
        int readQuestion(Code into, Parlour parlour) {
            begin(into, parlour, true);
            int word = reader.wordHere();
            if (word == W_FIRST || word == W_LAST || word == W_OFTEN) {
                reader.advance();
                test();
            } else if (word == W_TOTAL || word == W_MOST || word == W_LEAST) {
                reader.advance();
                sum();
            } else {
                reader.failHere();
            }
            if (!reader.isEnd()) {
                reader.failHere();
            }
            return word;
        }

        void readTest(Code into, Parlour parlour) {
            begin(into, parlour, false);
            test();
        }

        private void begin(Code into, Parlour parlour, boolean isQuestion) {
            code = into;
            names = parlour;
            asking = isQuestion;
            open = 0;
        }

        private void test() {
            both();
            for (int n = 0; n < MAX_TAPE && reader.isWord(W_OR); n++) {
                reader.advance();
                both();
                code.add(OP_OR, 0);
            }
        }

        private void both() {
            claim();
            for (int n = 0; n < MAX_TAPE && reader.isWord(W_AND); n++) {
                reader.advance();
                claim();
                code.add(OP_AND, 0);
            }
        }

        /** What the document's grammar calls FACT. */
        private void claim() {
            if (reader.isSign('[')) {
                if (goDeeper()) {
                    test();
                    reader.takeSign(']');
                    open--;
                }
            } else if (reader.isWord(W_NOT)) {
                if (goDeeper()) {
                    claim();
                    code.add(OP_NOT, 0);
                    open--;
                }
            } else if (reader.isWord(W_ALL)) {
                code.add(OP_PUSH, 1);
                reader.advance();
            } else {
                sum();
                int op = signHere();
                reader.advance();
                sum();
                code.add(op, 0);
            }
        }

        private int signHere() {
            if (reader.isSign('<')) {
                return OP_LESS;
            }
            if (reader.isSign('>')) {
                return OP_MORE;
            }
            if (!reader.isSign('=')) {
                reader.failHere();
            }
            return OP_SAME;
        }

        private boolean goDeeper() {
            if (open >= MAX_OPEN) {
                reader.fail(FAULT_OPEN, reader.from);
                return false;
            }
            open++;
            reader.advance();
            return true;
        }

        private void sum() {
            product();
            for (int n = 0; n < MAX_TAPE && (reader.isSign('+') || reader.isSign('-')); n++) {
                int op = reader.isSign('+') ? OP_ADD : OP_SUB;
                reader.advance();
                product();
                code.add(op, 0);
            }
        }

        private void product() {
            part();
            for (int n = 0; n < MAX_TAPE && (reader.isSign('*') || reader.isSign('/')); n++) {
                int op = reader.isSign('*') ? OP_MUL : OP_DIV;
                reader.advance();
                part();
                code.add(op, 0);
            }
        }

        private void part() {
            if (reader.isNumber()) {
                code.add(OP_PUSH, reader.takeNumber());
            } else if (reader.isSign('(')) {
                if (goDeeper()) {
                    sum();
                    reader.takeSign(')');
                    open--;
                }
            } else if (reader.isWord(W_MIN) || reader.isWord(W_MAX)) {
                pair(reader.isWord(W_MIN) ? OP_MIN : OP_MAX);
            } else if (isLookingWord()) {
                lookup();
            } else {
                leaf();
            }
        }

        private void pair(int op) {
            reader.advance();
            if (!reader.isSign('(')) {
                reader.failHere();
            } else if (goDeeper()) {
                sum();
                reader.takeSign(',');
                sum();
                reader.takeSign(')');
                code.add(op, 0);
                open--;
            }
        }

        private boolean isLookingWord() {
            if (asking) {
                return reader.isWord(W_SEES) || reader.isWord(W_COULD);
            }
            return reader.isWord(W_COUNT);
        }

        private void lookup() {
            int base = LEAF_COUNT;
            if (reader.isWord(W_SEES)) {
                base = LEAF_SEES;
            } else if (reader.isWord(W_COULD)) {
                base = LEAF_COULD;
            }
            if (goDeeper()) {
                part();
                code.add(OP_LOOK, base);
                open--;
            }
        }

        private void leaf() {
            int word = reader.wordHere();
            int at = NONE;
            if (asking) {
                at = word >= W_NUMBER && word <= W_ROUND ? LEAF_WORDS + word : NONE;
            } else if (word >= W_SUM && word <= W_KINDS) {
                at = LEAF_WORDS + word;
            } else if (names != null) {
                at = names.guestNamed(reader.lettersHere());
            }
            if (at == NONE) {
                reader.failHere();
                return;
            }
            code.add(OP_LEAF, at);
            reader.advance();
        }
    }

    /** What the PARTS stand for, of a ROW or of a GUEST, and the stack on which Code is worked. */
    private static final class Sheet {
        private final Cells leaves = new Cells(LEAVES);
        private final Cells stack = new Cells(64);
        private int height;

        void fillFromRow(int row, int marks, int guests) {
            leaves.wipe();
            int rest = row;
            int sum = 0;
            int top = 0;
            int low = guests > 0 ? marks : 0;
            for (int guest = 0; guest < guests && marks > 0; guest++) {
                int mark = rest % marks;
                rest /= marks;
                leaves.put(guest, mark);
                leaves.put(LEAF_COUNT + mark, leaves.get(LEAF_COUNT + mark) + 1);
                sum += mark;
                top = Math.max(top, mark);
                low = Math.min(low, mark);
            }
            leaves.put(LEAF_WORDS + W_SUM, sum);
            leaves.put(LEAF_WORDS + W_TOP, top);
            leaves.put(LEAF_WORDS + W_LOW, low);
            leaves.put(LEAF_WORDS + W_KINDS, countKinds(marks));
        }

        private int countKinds(int marks) {
            int kinds = 0;
            for (int mark = 0; mark < marks; mark++) {
                kinds += leaves.get(LEAF_COUNT + mark) > 0 ? 1 : 0;
            }
            return kinds;
        }

        void fillFromGuest(Game game, int guest) {
            leaves.wipe();
            leaves.put(LEAF_WORDS + W_NUMBER, guest);
            leaves.put(LEAF_WORDS + W_MARK, game.rows.markOf(game.worn, guest));
            leaves.put(LEAF_WORDS + W_ROWS, game.countRowsOf(guest));
            leaves.put(LEAF_WORDS + W_KNOWS, game.isKnower(guest) ? 1 : 0);
            leaves.put(LEAF_WORDS + W_ROUND, game.rounds);
            int seen = game.rows.sees.get(guest);
            int held = game.marksHeld(guest);
            for (int k = 0; k < MAX_GUESTS; k++) {
                leaves.put(LEAF_SEES + k, seen >> k & 1);
                leaves.put(LEAF_COULD + k, held >> k & 1);
            }
        }

        int value(Code code, int from, int to) {
            height = 0;
            for (int k = from; k < to; k++) {
                int step = code.steps.get(k);
                work(step & 15, step >> 4);
            }
            return pop();
        }

        private void work(int op, int with) {
            switch (op) {
                case OP_PUSH:
                    push(with);
                    break;
                case OP_LEAF:
                    push(leaves.get(with));
                    break;
                case OP_LOOK:
                    int number = pop();
                    push(number >= 0 && number < MAX_GUESTS ? leaves.get(with + number) : 0);
                    break;
                case OP_NOT:
                    push(1 - pop());
                    break;
                default:
                    int second = pop();
                    int first = pop();
                    push(op < OP_LESS ? reckon(op, first, second) : judge(op, first, second));
                    break;
            }
        }

        private void push(int value) {
            stack.put(height, value);
            height++;
        }

        private int pop() {
            height = Math.max(height - 1, 0);
            return stack.get(height);
        }

        private static int reckon(int op, int first, int second) {
            switch (op) {
                case OP_ADD:
                    return hold((long) first + second);
                case OP_SUB:
                    return hold((long) first - second);
                case OP_MUL:
                    return hold((long) first * second);
                case OP_DIV:
                    return second == 0 ? 0 : Math.floorDiv(first, second);
                case OP_MIN:
                    return Math.min(first, second);
                default:
                    return Math.max(first, second);
            }
        }

        private static int hold(long value) {
            return (int) Math.max(-MAX_HELD, Math.min(MAX_HELD, value));
        }

        private static int judge(int op, int first, int second) {
            boolean holds;
            switch (op) {
                case OP_LESS:
                    holds = first < second;
                    break;
                case OP_MORE:
                    holds = first > second;
                    break;
                case OP_SAME:
                    holds = first == second;
                    break;
                case OP_AND:
                    holds = first != 0 && second != 0;
                    break;
                default:
                    holds = first != 0 || second != 0;
                    break;
            }
            return holds ? 1 : 0;
        }
    }

    /** What the text of a PARLOUR tells; two of these take turns, so that a text with a FAULT spoils nothing. */
    private static final class Parlour {
        private final Reader reader;
        private final Grammar grammar;
        private final Code code = new Code();
        private final Cells blind = new Cells(MAX_GUESTS);
        /** Where the steps of each RULE and of each FACT begin and end, two by two. */
        private final Cells ruleSteps = new Cells(2 * MAX_RULES);
        private final Cells factSteps = new Cells(2 * MAX_FACTS);
        /** The worth of the next GUEST's MARK in the number of a ROW. */
        private int weight;
        final Cells names = new Cells(MAX_GUESTS);
        int statements;
        int marks;
        int guests;
        int rules;
        int facts;
        int slip;
        int worn;

        Parlour(Reader reader, Grammar grammar) {
            this.reader = reader;
            this.grammar = grammar;
        }

        void open(Cells text, int length) {
            forget();
            reader.open(text, length);
        }

        /** To be called when all STATEMENTS are read. */
        void close(Sheet sheet) {
            if (statements == 0) {
                reader.failAtEnd(FAULT_TEXT);
            }
            if (reader.fault == 0) {
                sheet.fillFromRow(worn, marks, guests);
                if (!rulesHold(sheet)) {
                    reader.failAtEnd(FAULT_RULE);
                }
            }
        }

        private void forget() {
            statements = 0;
            marks = 0;
            guests = 0;
            rules = 0;
            facts = 0;
            slip = 0;
            worn = 0;
            weight = 1;
            code.size = 0;
            blind.wipe();
        }

        void readStatement() {
            int word = statementWord();
            reader.advance();
            switch (word) {
                case W_MARKS:
                    marks = reader.takeNumberWithin(2, 4);
                    break;
                case W_GUEST:
                    readGuest();
                    break;
                case W_BLIND:
                    readBlind();
                    break;
                case W_SLIP:
                    slip = reader.takeNumberWithin(0, MAX_SLIP);
                    break;
                default:
                    int start = code.size;
                    grammar.readTest(code, this);
                    noteTest(word, start);
                    break;
            }
            reader.takeSign(';');
            statements++;
        }

        /** The word by which a STATEMENT begins; a FAULT, if there is none or it may not stand here. */
        private int statementWord() {
            int word = reader.wordHere();
            boolean full = word == W_GUEST && guests >= MAX_GUESTS || word == W_RULE && rules >= MAX_RULES
                || word == W_FACT && facts >= MAX_FACTS || statements >= MAX_STATEMENTS;
            if (full) {
                reader.fail(FAULT_MANY, reader.from);
            }
            boolean first = word == W_MARKS;
            boolean other = word == W_GUEST || word == W_BLIND || word == W_RULE || word == W_FACT || word == W_SLIP;
            if (statements == 0 ? !first : !other) {
                reader.failHere();
            }
            return word;
        }

        private void noteTest(int word, int start) {
            if (word == W_RULE) {
                ruleSteps.put(2 * rules, start);
                ruleSteps.put(2 * rules + 1, code.size);
                rules++;
            } else {
                factSteps.put(2 * facts, start);
                factSteps.put(2 * facts + 1, code.size);
                facts++;
            }
        }

        private void readGuest() {
            int at = reader.from;
            int name = reader.takeName();
            if (guestNamed(name) != NONE) {
                reader.fail(FAULT_NAME, at);
            }
            reader.takeWord(W_WEARS);
            int mark = reader.takeNumberWithin(0, marks - 1);
            names.put(guests, name);
            guests++;
            worn += mark * weight;
            weight *= marks;
        }

        private void readBlind() {
            int at = reader.from;
            int first = guestNamed(reader.takeName());
            if (first == NONE) {
                reader.fail(FAULT_NAME, at);
            }
            reader.takeWord(W_TO);
            at = reader.from;
            int second = guestNamed(reader.takeName());
            if (first == NONE || second == NONE || first == second || (blind.get(first) >> second & 1) != 0) {
                reader.fail(FAULT_NAME, at);
                return;
            }
            blind.put(first, blind.get(first) | 1 << second);
        }

        /** The GUEST of that NAME; a word of over six letters comes as 0 and is none. */
        int guestNamed(int name) {
            for (int guest = 0; guest < guests; guest++) {
                if (names.get(guest) == name) {
                    return guest;
                }
            }
            return NONE;
        }

        int seenBy(int guest) {
            return (1 << guests) - 1 & ~(1 << guest) & ~blind.get(guest);
        }

        boolean rulesHold(Sheet sheet) {
            for (int rule = 0; rule < rules; rule++) {
                if (sheet.value(code, ruleSteps.get(2 * rule), ruleSteps.get(2 * rule + 1)) == 0) {
                    return false;
                }
            }
            return true;
        }

        /** The bits of the FACTS that hold. */
        int truthBits(Sheet sheet) {
            int bits = 0;
            for (int fact = 0; fact < facts; fact++) {
                int holds = sheet.value(code, factSteps.get(2 * fact), factSteps.get(2 * fact + 1));
                bits |= holds << fact;
            }
            return bits;
        }
    }

    /** The ROWS of THE PARLOUR, by their numbers; they stay as they are until there is another one. */
    private static final class Rows {
        private final Cells weights = new Cells(MAX_GUESTS + 1);
        private final Cells marksByRow = new Cells(MAX_ROWS * MAX_GUESTS);
        /** The number that a ROW would have with 0 for all whom a GUEST does not SEE: alike, if he can't tell them apart. */
        private final Cells viewsByRow = new Cells(MAX_ROWS * MAX_GUESTS);
        private final Cells allowed = new Cells(MAX_ROWS);
        /** Marks held for possible, by view; all 0 between two uses. */
        private final Cells possible = new Cells(MAX_ROWS);
        private int marks;
        final Cells sees = new Cells(MAX_GUESTS);
        /** The bits of the FACTS that hold, for each of ALL ROWS; no other ROW is ever LEFT. */
        final Cells truths = new Cells(MAX_ROWS);
        final Cells all = new Cells(MAX_ROWS);
        int guests;
        int facts;
        int count;
        int allCount;

        void build(Parlour parlour, Sheet sheet) {
            marks = parlour.marks;
            guests = parlour.guests;
            facts = parlour.facts;
            weights.put(0, 1);
            for (int guest = 0; guest < guests; guest++) {
                weights.put(guest + 1, weights.get(guest) * marks);
                sees.put(guest, parlour.seenBy(guest));
            }
            count = Math.min(weights.get(guests), MAX_ROWS);
            allowed.wipe();
            allCount = 0;
            for (int row = 0; row < count; row++) {
                fillViews(row);
                sheet.fillFromRow(row, marks, guests);
                if (parlour.rulesHold(sheet)) {
                    truths.put(row, parlour.truthBits(sheet));
                    allowed.put(row, 1);
                    all.put(allCount, row);
                    allCount++;
                }
            }
        }

        private void fillViews(int row) {
            int rest = row;
            for (int guest = 0; guest < guests && marks > 0; guest++) {
                marksByRow.put(row * MAX_GUESTS + guest, rest % marks);
                rest /= marks;
            }
            for (int guest = 0; guest < guests; guest++) {
                int view = 0;
                for (int other = 0; other < guests; other++) {
                    if ((sees.get(guest) >> other & 1) != 0) {
                        view += markOf(row, other) * weights.get(other);
                    }
                }
                viewsByRow.put(row * MAX_GUESTS + guest, view);
            }
        }

        int markOf(int row, int guest) {
            return marksByRow.get(row * MAX_GUESTS + guest);
        }

        int viewOf(int row, int guest) {
            return viewsByRow.get(row * MAX_GUESTS + guest);
        }

        boolean isAllowed(int row) {
            return allowed.get(row) != 0;
        }

        boolean holdsIn(int row, int fact) {
            return (truths.get(row) >> fact & 1) != 0;
        }

        int countHolding(int fact) {
            int times = 0;
            for (int k = 0; k < allCount; k++) {
                times += holdsIn(all.get(k), fact) ? 1 : 0;
            }
            return times;
        }

        /** The ROW that differs from this one by the MARK of a GUEST; NONE when there is no such MARK. */
        int withMark(int row, int guest, int mark) {
            if (mark < 0 || mark >= marks) {
                return NONE;
            }
            return row + (mark - markOf(row, guest)) * weights.get(guest);
        }

        /** Who KNOWS (bits by ROW), if those of the list from one place to another are all that are LEFT. */
        void findKnowers(Cells list, int from, int to, Cells known) {
            for (int k = from; k < to; k++) {
                known.put(list.get(k), 0);
            }
            for (int guest = 0; guest < guests; guest++) {
                for (int k = from; k < to; k++) {
                    int view = viewOf(list.get(k), guest);
                    possible.put(view, possible.get(view) | 1 << markOf(list.get(k), guest));
                }
                for (int k = from; k < to; k++) {
                    int row = list.get(k);
                    if (Integer.bitCount(possible.get(viewOf(row, guest))) == 1) {
                        known.put(row, known.get(row) | 1 << guest);
                    }
                }
                for (int k = from; k < to; k++) {
                    possible.put(viewOf(list.get(k), guest), 0);
                }
            }
        }
    }

    /** THE TRUE ROW, the ROWS that are LEFT, the ROUND, and what follows from these. */
    private static final class Game {
        private final Ahead ahead = new Ahead();
        private final Cells sure = new Cells(MAX_ROWS);
        private final Cells surer = new Cells(MAX_ROWS);
        private final Cells doubts = new Cells(1 << MAX_FACTS);
        private final Cells otherDoubts = new Cells(1 << MAX_FACTS);
        final Rows rows;
        final Cells leftRows = new Cells(MAX_ROWS);
        /** Who KNOWS, as bits, by each ROW that is LEFT. */
        final Cells known = new Cells(MAX_ROWS);
        int leftCount;
        int worn;
        int rounds;

        Game(Rows rows) {
            this.rows = rows;
        }

        void begin(int row) {
            for (int k = 0; k < rows.allCount; k++) {
                leftRows.put(k, rows.all.get(k));
            }
            leftCount = rows.allCount;
            rounds = 0;
            worn = row;
            settle();
        }

        /** To be called when other ROWS are LEFT or another one is worn. */
        void settle() {
            rows.findKnowers(leftRows, 0, leftCount, known);
            ahead.forget();
        }

        int knowers() {
            return leftCount > 0 ? known.get(worn) : 0;
        }

        boolean isKnower(int guest) {
            return (knowers() >> guest & 1) != 0;
        }

        /** LEFT are those whose bits of the mask are in the table as those of THE TRUE ROW. */
        void keepAlike(Cells table, int mask) {
            int wanted = table.get(worn) & mask;
            int size = 0;
            for (int k = 0; k < leftCount; k++) {
                int row = leftRows.get(k);
                if ((table.get(row) & mask) == wanted) {
                    leftRows.put(size, row);
                    size++;
                }
            }
            leftCount = size;
            settle();
        }

        int countAlike(Cells table, int mask) {
            int wanted = table.get(worn) & mask;
            int size = 0;
            for (int k = 0; k < leftCount; k++) {
                size += (table.get(leftRows.get(k)) & mask) == wanted ? 1 : 0;
            }
            return size;
        }

        private boolean isRowOf(int guest, int row) {
            return rows.viewOf(row, guest) == rows.viewOf(worn, guest);
        }

        int countRowsOf(int guest) {
            int size = 0;
            for (int k = 0; k < leftCount; k++) {
                size += isRowOf(guest, leftRows.get(k)) ? 1 : 0;
            }
            return size;
        }

        /** The MARKS that a GUEST holds for possible, as bits. */
        int marksHeld(int guest) {
            int bits = 0;
            for (int k = 0; k < leftCount; k++) {
                int row = leftRows.get(k);
                if (isRowOf(guest, row)) {
                    bits |= 1 << rows.markOf(row, guest);
                }
            }
            return bits;
        }

        int knowsOf(int guest, int other) {
            int inAll = 1;
            int inSome = 0;
            for (int k = 0; k < leftCount; k++) {
                int row = leftRows.get(k);
                if (isRowOf(guest, row)) {
                    int bit = known.get(row) >> other & 1;
                    inAll &= bit;
                    inSome |= bit;
                }
            }
            if (inAll == 1) {
                return 1;
            }
            return inSome == 0 ? 2 : 0;
        }

        int depth() {
            int everyone = (1 << rows.guests) - 1;
            for (int k = 0; k < leftCount; k++) {
                int row = leftRows.get(k);
                sure.put(row, known.get(row) == everyone ? 1 : 0);
            }
            for (int level = 0; level < MAX_DEEP; level++) {
                if (sure.get(worn) == 0) {
                    return level;
                }
                deepen();
            }
            return MAX_DEEP;
        }

        /** Sure stay the ROWS that nobody mixes up with one that is not; all look at what was sure ahead of it. */
        private void deepen() {
            for (int k = 0; k < leftCount; k++) {
                int row = leftRows.get(k);
                surer.put(row, sure.get(row));
            }
            for (int guest = 0; guest < rows.guests; guest++) {
                for (int k = 0; k < leftCount; k++) {
                    int row = leftRows.get(k);
                    if (sure.get(row) == 0) {
                        rows.possible.put(rows.viewOf(row, guest), 1);
                    }
                }
                for (int k = 0; k < leftCount; k++) {
                    int row = leftRows.get(k);
                    if (rows.possible.get(rows.viewOf(row, guest)) != 0) {
                        surer.put(row, 0);
                    }
                }
                for (int k = 0; k < leftCount; k++) {
                    rows.possible.put(rows.viewOf(leftRows.get(k), guest), 0);
                }
            }
            for (int k = 0; k < leftCount; k++) {
                int row = leftRows.get(k);
                sure.put(row, surer.get(row));
            }
        }

        Ahead lookAhead() {
            ahead.prepare(this);
            return ahead;
        }

        /** HINTS for a GUEST, or, with another one, a SECRET from that one; NONE without them. */
        int fewestFacts(int guest, int from) {
            gatherDoubts(guest, doubts);
            if (from != NONE) {
                gatherDoubts(from, otherDoubts);
            }
            int best = NONE;
            for (int bits = 0; bits < 1 << rows.facts; bits++) {
                boolean fewer = best == NONE || Integer.bitCount(bits) < Integer.bitCount(best);
                if (fewer && isCleared(doubts, bits) && (from == NONE || !isCleared(otherDoubts, bits))) {
                    best = bits;
                }
            }
            return best;
        }

        /** Of each ROW OF a GUEST where he wears another MARK: the FACTS, each of which would rule it out. */
        private void gatherDoubts(int guest, Cells into) {
            into.wipe();
            for (int k = 0; k < leftCount; k++) {
                int row = leftRows.get(k);
                if (isRowOf(guest, row) && rows.markOf(row, guest) != rows.markOf(worn, guest)) {
                    into.put(rows.truths.get(row) ^ rows.truths.get(worn), 1);
                }
            }
        }

        private boolean isCleared(Cells of, int said) {
            for (int bits = 0; bits < 1 << rows.facts; bits++) {
                if (of.get(bits) != 0 && (bits & said) == 0) {
                    return false;
                }
            }
            return true;
        }

        int bestSpeaker() {
            int best = NONE;
            int fewest = 0;
            for (int guest = 0; guest < rows.guests; guest++) {
                int size = countAlike(known, 1 << guest);
                if (best == NONE || size < fewest) {
                    best = guest;
                    fewest = size;
                }
            }
            return best;
        }
    }

    /** ROUNDS AHEAD of a Game; looked at once for each state of it. */
    private static final class Ahead {
        private final Cells list = new Cells(MAX_ROWS);
        private final Cells known = new Cells(MAX_ROWS);
        private int size;
        private boolean ready;
        /** Behind how many ROUNDS each GUEST KNOWS first; who KNOWS once KNOWS for ever, as LEFT only shrink. */
        final Cells firstKnown = new Cells(MAX_GUESTS);
        int firstRest;

        void forget() {
            ready = false;
        }

        void prepare(Game game) {
            if (ready) {
                return;
            }
            ready = true;
            start(game);
            for (int n = 0; n <= MAX_AHEAD && firstRest == NEVER; n++) {
                game.rows.findKnowers(list, 0, size, known);
                int bits = known.get(game.worn);
                for (int guest = 0; guest < game.rows.guests; guest++) {
                    if ((bits >> guest & 1) != 0) {
                        firstKnown.put(guest, Math.min(firstKnown.get(guest), n));
                    }
                }
                if (!shrinkTo(bits)) {
                    firstRest = n;
                }
            }
        }

        private void start(Game game) {
            size = game.leftCount;
            for (int k = 0; k < size; k++) {
                list.put(k, game.leftRows.get(k));
            }
            for (int guest = 0; guest < MAX_GUESTS; guest++) {
                firstKnown.put(guest, NEVER);
            }
            firstRest = NEVER;
        }

        /** Whether fewer are left when those stay in which just these KNOW. */
        private boolean shrinkTo(int bits) {
            int stay = 0;
            for (int k = 0; k < size; k++) {
                int row = list.get(k);
                if (known.get(row) == bits) {
                    list.put(stay, row);
                    stay++;
                }
            }
            boolean shrunk = stay < size;
            size = stay;
            return shrunk;
        }
    }

    /** ANEW, with each of ALL ROWS as THE TRUE ROW at once, and FITS by what was HEARD. */
    private static final class Anew {
        private final Rows rows;
        /** ALL ROWS, those together that the ROUNDS so far do not tell apart: groups, each with its first place. */
        private Cells order = new Cells(MAX_ROWS);
        private Cells nextOrder = new Cells(MAX_ROWS);
        private Cells starts = new Cells(MAX_ROWS + 1);
        private Cells nextStarts = new Cells(MAX_ROWS + 1);
        private int groups;
        private int nextGroups;
        private final Cells known = new Cells(MAX_ROWS);
        private final Cells first = new Cells(MAX_ROWS * MAX_GUESTS);
        private boolean ready;
        private final Cells heard = new Cells(3 * MAX_HEARD);
        final Cells fitting = new Cells(MAX_ROWS);
        int fittingCount;
        int heardCount;

        Anew(Rows rows) {
            this.rows = rows;
        }

        void forget() {
            ready = false;
            heardCount = 0;
        }

        void prepare() {
            if (ready) {
                return;
            }
            ready = true;
            start();
            boolean going = true;
            for (int n = 0; n <= MAX_AHEAD && going; n++) {
                int before = groups;
                splitGroups(n);
                going = groups > before;
            }
        }

        private void start() {
            for (int k = 0; k < rows.allCount; k++) {
                order.put(k, rows.all.get(k));
            }
            for (int k = 0; k < MAX_ROWS * MAX_GUESTS; k++) {
                first.put(k, NEVER);
            }
            groups = 1;
            starts.put(0, 0);
            starts.put(1, rows.allCount);
        }

        /** The ROUND behind n ROUNDS, in all groups. */
        private void splitGroups(int n) {
            nextGroups = 0;
            for (int group = 0; group < groups; group++) {
                int from = starts.get(group);
                int to = starts.get(group + 1);
                rows.findKnowers(order, from, to, known);
                noteKnowers(from, to, n);
                splitGroup(from, to);
            }
            nextStarts.put(nextGroups, rows.allCount);
            Cells old = order;
            order = nextOrder;
            nextOrder = old;
            old = starts;
            starts = nextStarts;
            nextStarts = old;
            groups = nextGroups;
        }

        private void noteKnowers(int from, int to, int n) {
            for (int k = from; k < to; k++) {
                int row = order.get(k);
                for (int guest = 0; guest < rows.guests; guest++) {
                    int at = row * MAX_GUESTS + guest;
                    if ((known.get(row) >> guest & 1) != 0) {
                        first.put(at, Math.min(first.get(at), n));
                    }
                }
            }
        }

        private void splitGroup(int from, int to) {
            int place = from;
            for (int bits = 0; bits < 1 << rows.guests && place < to; bits++) {
                int begin = place;
                for (int k = from; k < to; k++) {
                    int row = order.get(k);
                    if (known.get(row) == bits) {
                        nextOrder.put(place, row);
                        place++;
                    }
                }
                if (place > begin) {
                    nextStarts.put(nextGroups, begin);
                    nextGroups++;
                }
            }
        }

        int firstKnown(int row, int guest) {
            return first.get(row * MAX_GUESTS + guest);
        }

        int slowestRow(int guest) {
            int best = NONE;
            int most = NONE;
            for (int k = 0; k < rows.allCount; k++) {
                int n = firstKnown(rows.all.get(k), guest);
                if (n <= MAX_AHEAD && n > most) {
                    best = rows.all.get(k);
                    most = n;
                }
            }
            return best;
        }

        int countKnowing(int guest, int n) {
            int times = 0;
            for (int k = 0; k < rows.allCount; k++) {
                times += firstKnown(rows.all.get(k), guest) <= n ? 1 : 0;
            }
            return times;
        }

        /** Takes what is HEARD from a tape; false, and all stays, when it is none such. */
        boolean listen(Cells tape, int length) {
            int size = length / 3;
            if (size * 3 != length || size < 1 || size > MAX_HEARD) {
                return false;
            }
            for (int k = 0; k < length; k += 3) {
                if (tape.get(k) >= HEARD_ROUNDS || tape.get(k + 1) >= rows.guests || tape.get(k + 2) > 1) {
                    return false;
                }
            }
            for (int k = 0; k < length; k++) {
                heard.put(k, tape.get(k));
            }
            heardCount = size;
            return true;
        }

        void findFitting() {
            prepare();
            fittingCount = 0;
            for (int k = 0; k < rows.allCount; k++) {
                int row = rows.all.get(k);
                if (isFitting(row)) {
                    fitting.put(fittingCount, row);
                    fittingCount++;
                }
            }
        }

        private boolean isFitting(int row) {
            for (int k = 0; k < 3 * heardCount; k += 3) {
                boolean knowing = firstKnown(row, heard.get(k + 1)) <= heard.get(k);
                if (knowing != (heard.get(k + 2) == 1)) {
                    return false;
                }
            }
            return true;
        }

        int marksFitting(int guest) {
            int bits = 0;
            for (int k = 0; k < fittingCount; k++) {
                bits |= 1 << rows.markOf(fitting.get(k), guest);
            }
            return bits;
        }

        /** TELLING among FITS: MAX_GUESTS times the number of ROUNDS, and the GUEST. */
        int bestTelling() {
            int best = 0;
            int fewest = MAX_ROWS + 1;
            for (int n = 0; n < HEARD_ROUNDS; n++) {
                for (int guest = 0; guest < rows.guests; guest++) {
                    int size = mostLeft(n, guest);
                    if (size < fewest) {
                        best = n * MAX_GUESTS + guest;
                        fewest = size;
                    }
                }
            }
            return best;
        }

        int mostLeft(int n, int guest) {
            int knowing = 0;
            for (int k = 0; k < fittingCount; k++) {
                knowing += firstKnown(fitting.get(k), guest) <= n ? 1 : 0;
            }
            return Math.max(knowing, fittingCount - knowing);
        }
    }

    /** What is KEPT, and the states to which ACTS can be undone. */
    private static final class Journal {
        /** A power of 2 that holds what is told and, behind it, all that MAX_UNDO ACTS can have added. */
        private static final int RING = 512;
        private static final int BITS_FROM = 3;
        private static final int SLOT = BITS_FROM + MAX_ROWS / 32;

        private final Cells ring = new Cells(4 * RING);
        private int total;
        private final Cells saved = new Cells(MAX_UNDO * SLOT);
        private int nextSlot;
        int savedCount;

        void wipe() {
            total = 0;
            nextSlot = 0;
            savedCount = 0;
        }

        void write(int sort, int which, int said, int leftBehind) {
            int at = 4 * (total & (RING - 1));
            ring.put(at, sort);
            ring.put(at + 1, which);
            ring.put(at + 2, said);
            ring.put(at + 3, leftBehind);
            total++;
        }

        int toldCount() {
            return Math.min(total, MAX_KEPT);
        }

        int entry(int k, int what) {
            int number = total - toldCount() + k;
            return ring.get(4 * (number & (RING - 1)) + what);
        }

        /** To be called ahead of each ACT. */
        void save(Game game) {
            int base = nextSlot * SLOT;
            for (int k = 0; k < SLOT; k++) {
                saved.put(base + k, 0);
            }
            saved.put(base, game.worn);
            saved.put(base + 1, game.rounds);
            saved.put(base + 2, total);
            for (int k = 0; k < game.leftCount; k++) {
                int row = game.leftRows.get(k);
                int at = base + BITS_FROM + (row >> 5);
                saved.put(at, saved.get(at) | 1 << (row & 31));
            }
            nextSlot = (nextSlot + 1) % MAX_UNDO;
            savedCount = Math.min(savedCount + 1, MAX_UNDO);
        }

        /** The state ahead of the latest ACT; false when there is none. */
        boolean restore(Game game) {
            if (savedCount == 0) {
                return false;
            }
            savedCount--;
            nextSlot = (nextSlot + MAX_UNDO - 1) % MAX_UNDO;
            int base = nextSlot * SLOT;
            game.worn = saved.get(base);
            game.rounds = saved.get(base + 1);
            total = saved.get(base + 2);
            game.leftCount = 0;
            for (int row = 0; row < game.rows.count; row++) {
                if ((saved.get(base + BITS_FROM + (row >> 5)) >> (row & 31) & 1) != 0) {
                    game.leftRows.put(game.leftCount, row);
                    game.leftCount++;
                }
            }
            game.settle();
            return true;
        }
    }
}
