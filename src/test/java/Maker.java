import java.util.ArrayList;
import java.util.List;
import java.util.Random;
import java.util.function.ToLongFunction;

/** Makes random TESTS and SUMS by the grammar: their pieces in a row, and how to reckon them. */
final class Maker {
    /** A word that stands for a number, with or without a PART behind it. */
    record Word<T>(String text, ToLongFunction<T> value) {
    }

    /** A word with a PART behind it. */
    interface Look<T> {
        long of(T what, long part);
    }

    private static final long HELD = 1000000;

    private final Random random;
    private int open;

    Maker(Random random) {
        this.random = random;
    }

    <T> ToLongFunction<T> test(List<String> text, List<Word<T>> words, List<String> looks, List<Look<T>> look) {
        ToLongFunction<T> value = both(text, words, looks, look);
        while (random.nextInt(4) == 0) {
            text.add("or");
            ToLongFunction<T> first = value;
            ToLongFunction<T> second = both(text, words, looks, look);
            value = w -> first.applyAsLong(w) + second.applyAsLong(w) > 0 ? 1 : 0;
        }
        return value;
    }

    private <T> ToLongFunction<T> both(List<String> text, List<Word<T>> words, List<String> looks, List<Look<T>> look) {
        ToLongFunction<T> value = claim(text, words, looks, look);
        while (random.nextInt(4) == 0) {
            text.add("and");
            ToLongFunction<T> first = value;
            ToLongFunction<T> second = claim(text, words, looks, look);
            value = w -> first.applyAsLong(w) * second.applyAsLong(w);
        }
        return value;
    }

    private <T> ToLongFunction<T> claim(List<String> text, List<Word<T>> words, List<String> looks, List<Look<T>> look) {
        int kind = random.nextInt(open < 6 ? 8 : 6);
        if (kind >= 6) {
            open++;
            text.add(kind == 6 ? "not" : "[");
            ToLongFunction<T> inner = kind == 6 ? claim(text, words, looks, look) : test(text, words, looks, look);
            if (kind == 7) {
                text.add("]");
            }
            open--;
            return kind == 6 ? w -> 1 - inner.applyAsLong(w) : inner;
        }
        if (kind == 5 && random.nextInt(4) == 0) {
            text.add("all");
            return w -> 1;
        }
        ToLongFunction<T> first = sum(text, words, looks, look);
        int sign = random.nextInt(3);
        text.add(sign == 0 ? "<" : sign == 1 ? ">" : "=");
        ToLongFunction<T> second = sum(text, words, looks, look);
        return w -> {
            int c = Long.compare(first.applyAsLong(w), second.applyAsLong(w));
            return (sign == 0 ? c < 0 : sign == 1 ? c > 0 : c == 0) ? 1 : 0;
        };
    }

    <T> ToLongFunction<T> sum(List<String> text, List<Word<T>> words, List<String> looks, List<Look<T>> look) {
        ToLongFunction<T> value = product(text, words, looks, look);
        while (random.nextInt(3) == 0) {
            boolean plus = random.nextBoolean();
            text.add(plus ? "+" : "-");
            ToLongFunction<T> first = value;
            ToLongFunction<T> second = product(text, words, looks, look);
            value = w -> held(first.applyAsLong(w) + (plus ? 1 : -1) * second.applyAsLong(w));
        }
        return value;
    }

    private static long held(long n) {
        return n > HELD ? HELD : n < -HELD ? -HELD : n;
    }

    private static long divided(long a, long b) {
        if (b == 0) {
            return 0;
        }
        long q = a / b;
        return q * b != a && (a < 0) != (b < 0) ? q - 1 : q;
    }

    private <T> ToLongFunction<T> product(List<String> text, List<Word<T>> words, List<String> looks, List<Look<T>> look) {
        ToLongFunction<T> value = part(text, words, looks, look);
        while (random.nextInt(4) == 0) {
            boolean times = random.nextBoolean();
            text.add(times ? "*" : "/");
            ToLongFunction<T> first = value;
            ToLongFunction<T> second = part(text, words, looks, look);
            value = times ? w -> held(first.applyAsLong(w) * second.applyAsLong(w))
                : w -> divided(first.applyAsLong(w), second.applyAsLong(w));
        }
        return value;
    }

    private <T> ToLongFunction<T> part(List<String> text, List<Word<T>> words, List<String> looks, List<Look<T>> look) {
        int kind = random.nextInt(open < 6 ? 12 : 8);
        if (kind < 3) {
            int n = random.nextInt(5) == 0 ? random.nextInt(10000) : random.nextInt(5);
            text.add(random.nextInt(9) == 0 ? String.format("%04d", n) : "" + n);
            return w -> n;
        }
        if (kind < 8) {
            Word<T> word = words.get(random.nextInt(words.size()));
            text.add(word.text());
            return word.value();
        }
        open++;
        ToLongFunction<T> value = kind < 10 ? looking(text, words, looks, look) : inRounds(text, words, looks, look, kind);
        open--;
        return value;
    }

    private <T> ToLongFunction<T> looking(List<String> text, List<Word<T>> words, List<String> looks, List<Look<T>> look) {
        int which = random.nextInt(looks.size());
        text.add(looks.get(which));
        ToLongFunction<T> inner = part(text, words, looks, look);
        return w -> look.get(which).of(w, inner.applyAsLong(w));
    }

    private <T> ToLongFunction<T> inRounds(List<String> text, List<Word<T>> words, List<String> looks, List<Look<T>> look, int kind) {
        boolean least = random.nextBoolean();
        if (kind == 11) {
            text.add(least ? "min" : "max");
        }
        text.add("(");
        ToLongFunction<T> first = sum(text, words, looks, look);
        ToLongFunction<T> second = first;
        if (kind == 11) {
            text.add(",");
            second = sum(text, words, looks, look);
        }
        text.add(")");
        ToLongFunction<T> other = second;
        return w -> least ? Math.min(first.applyAsLong(w), other.applyAsLong(w))
            : Math.max(first.applyAsLong(w), other.applyAsLong(w));
    }

    /** The pieces with blanks where there must be some, and sometimes where there may be. */
    String join(List<String> pieces) {
        StringBuilder text = new StringBuilder();
        for (String piece : pieces) {
            boolean needed = text.length() > 0 && Character.isLetterOrDigit(piece.charAt(0))
                && Character.isLetterOrDigit(text.charAt(text.length() - 1));
            if (needed || random.nextInt(6) == 0) {
                text.append(random.nextInt(5) == 0 ? "\n" : " ");
            }
            text.append(piece);
        }
        return text.toString();
    }

    static List<String> list(String... pieces) {
        return new ArrayList<>(List.of(pieces));
    }
}
