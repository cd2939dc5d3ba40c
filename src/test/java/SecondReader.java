import java.util.ArrayList;
import java.util.HashSet;
import java.util.List;
import java.util.Set;

/** The grammar of Terms I and IV a second time, along the bytes of the text: the first FAULT, or how many STATEMENTS. */
final class SecondReader {
    private static final Set<String> OWN = Set.of(("marks guest wears blind to rule fact slip sum top low kinds count number mark"
        + " rows knows round sees could or and not all min max").split(" "));

    /** The first FAULT of a text. */
    private static final class Found extends RuntimeException {
        private static final long serialVersionUID = 1;
        private final int code;
        private final int place;

        Found(int code, int place) {
            this.code = code;
            this.place = place;
        }
    }

    private final String text;
    private int at;
    private int open;
    private boolean asking;
    private int marks;
    private final List<String> names = new ArrayList<>();
    private final Set<String> blind = new HashSet<>();
    int fault;
    int place = -1;
    int statements;

    private SecondReader(String text) {
        this.text = text;
    }

    static SecondReader ofParlour(String text) {
        SecondReader r = new SecondReader(text);
        try {
            r.parlour();
        } catch (Found f) {
            r.fault = f.code;
            r.place = f.place;
        }
        return r;
    }

    static SecondReader ofQuestion(String text) {
        SecondReader r = new SecondReader(text);
        r.asking = true;
        try {
            r.question();
        } catch (Found f) {
            r.fault = f.code;
            r.place = f.place;
        }
        return r;
    }

    private char byteAt(int k) {
        return k < text.length() ? text.charAt(k) : 0;
    }

    private static boolean isLetter(char c) {
        return c >= 'a' && c <= 'z';
    }

    private static boolean isDigit(char c) {
        return c >= '0' && c <= '9';
    }

    /** To the next byte that is no blank; a word or number just behind another one has none ahead of it. */
    private void skip() {
        int from = at;
        while (at < text.length() && (byteAt(at) == 10 || byteAt(at) == 32)) {
            at++;
        }
        char here = byteAt(at);
        char before = from > 0 ? byteAt(from - 1) : 0;
        if (at == from && (isLetter(here) || isDigit(here)) && (isLetter(before) || isDigit(before))) {
            throw new Found(1, at);
        }
    }

    private String wordAhead() {
        skip();
        int to = at;
        while (to < text.length() && isLetter(byteAt(to))) {
            to++;
        }
        return text.substring(at, to);
    }

    private boolean goes(String word) {
        if (!wordAhead().equals(word)) {
            return false;
        }
        at += word.length();
        return true;
    }

    private boolean goes(char sign) {
        skip();
        if (at >= text.length() || byteAt(at) != sign) {
            return false;
        }
        at++;
        return true;
    }

    private void must(boolean went) {
        if (!went) {
            throw new Found(1, at);
        }
    }

    private int number(int low, int high) {
        skip();
        must(isDigit(byteAt(at)));
        int from = at;
        int n = 0;
        for (; isDigit(byteAt(at)); at++) {
            must(at < from + 4);
            n = 10 * n + byteAt(at) - '0';
        }
        if (n < low || n > high) {
            throw new Found(2, from);
        }
        return n;
    }

    private String name() {
        String word = wordAhead();
        must(!word.isEmpty() && !OWN.contains(word));
        if (word.length() > 6) {
            throw new Found(1, at + 6);
        }
        at += word.length();
        return word;
    }

    private void parlour() {
        int[] told = new int[3];
        for (skip(); at < text.length(); skip()) {
            if (statements == 60) {
                throw new Found(5, at);
            }
            statement(told);
            must(goes(';'));
            statements++;
        }
        must(statements > 0);
    }

    private void statement(int[] told) {
        int from = at;
        if (statements == 0) {
            must(goes("marks"));
            marks = number(2, 4);
        } else if (goes("guest")) {
            one(told, 0, 5, from);
            guest();
        } else if (goes("blind")) {
            blind();
        } else if (goes("rule")) {
            one(told, 1, 4, from);
            test();
        } else if (goes("fact")) {
            one(told, 2, 8, from);
            test();
        } else {
            must(goes("slip"));
            number(0, 100);
        }
    }

    private static void one(int[] told, int kind, int most, int from) {
        told[kind]++;
        if (told[kind] > most) {
            throw new Found(5, from);
        }
    }

    private void guest() {
        skip();
        int from = at;
        String name = name();
        if (names.contains(name)) {
            throw new Found(3, from);
        }
        must(goes("wears"));
        number(0, marks - 1);
        names.add(name);
    }

    private void blind() {
        skip();
        int from = at;
        String first = name();
        if (!names.contains(first)) {
            throw new Found(3, from);
        }
        must(goes("to"));
        skip();
        from = at;
        String second = name();
        if (!names.contains(second) || first.equals(second) || !blind.add(first + " " + second)) {
            throw new Found(3, from);
        }
    }

    private void question() {
        if (goes("first") || goes("last") || goes("often")) {
            test();
        } else {
            must(goes("total") || goes("most") || goes("least"));
            sum();
        }
        skip();
        must(at == text.length());
    }

    private void test() {
        do {
            do {
                fact();
            } while (goes("and"));
        } while (goes("or"));
    }

    /** What stands from there on is open; to be closed by open--. */
    private void opened(int from) {
        open++;
        if (open > 6) {
            throw new Found(4, from);
        }
    }

    private void fact() {
        skip();
        int from = at;
        if (goes("not")) {
            opened(from);
            fact();
            open--;
        } else if (goes('[')) {
            opened(from);
            test();
            must(goes(']'));
            open--;
        } else if (!goes("all")) {
            sum();
            must(goes('<') || goes('>') || goes('='));
            sum();
        }
    }

    private void sum() {
        do {
            do {
                part();
            } while (goes('*') || goes('/'));
        } while (goes('+') || goes('-'));
    }

    private void part() {
        String word = wordAhead();
        int from = at;
        Set<String> leaves = asking ? Set.of("number", "mark", "rows", "knows", "round") : Set.of("sum", "top", "low", "kinds");
        Set<String> looks = asking ? Set.of("sees", "could") : Set.of("count");
        if (isDigit(byteAt(at))) {
            number(0, 9999);
        } else if (goes('(')) {
            opened(from);
            sum();
            must(goes(')'));
            open--;
        } else if (goes("min") || goes("max")) {
            skip();
            from = at;
            must(goes('('));
            opened(from);
            sum();
            must(goes(','));
            sum();
            must(goes(')'));
            open--;
        } else if (looks.contains(word)) {
            at += word.length();
            opened(from);
            part();
            open--;
        } else {
            must(leaves.contains(word) || !asking && names.contains(word));
            at += word.length();
        }
    }
}
