import java.util.ArrayList;
import java.util.List;

/** Looks into an object by its calls alone, and brings one to a state by an image. */
final class Probe {
    private Probe() {
    }

    /** All rows that are LEFT. */
    static int[] leftOf(ForeheadMarks x) {
        int[] rows = new int[x.has(5)];
        for (int k = 0; k < rows.length; k++) {
            rows[k] = x.left(k);
        }
        return rows;
    }

    static byte[] imageOf(ForeheadMarks x) {
        byte[] b = new byte[x.image()];
        for (int k = 0; k < b.length; k++) {
            b[k] = (byte) x.octet(k);
        }
        return b;
    }

    /** Bytes of an image but for the last one, and that one. */
    static byte[] sealed(int... ahead) {
        byte[] b = new byte[ahead.length + 1];
        int c = 197;
        for (int k = 0; k < ahead.length; k++) {
            b[k] = (byte) ahead[k];
            c = (3 * c + ahead[k]) % 251;
        }
        b[ahead.length] = (byte) c;
        return b;
    }

    static boolean onWith(ForeheadMarks x, byte[] bytes) {
        TestKit.put(x, bytes);
        return x.on();
    }

    /** A parlour at that ROUND with these rows LEFT, as if it had come so far. */
    static ForeheadMarks atRound(String text, int[] left, int round) {
        ForeheadMarks x = TestKit.with(text);
        byte[] b = imageOf(x);
        int[] ahead = new int[b.length - 1];
        int rowsFrom = 2 + x.has(1);
        ahead[0] = round / 256;
        ahead[1] = round % 256;
        for (int k = 2; k < rowsFrom; k++) {
            ahead[k] = b[k];
        }
        for (int row : left) {
            ahead[rowsFrom + row / 8] |= 1 << row % 8;
        }
        TestKit.due("on() of " + text, onWith(x, sealed(ahead)), true);
        return x;
    }

    /** What can be asked of an object without changing it, all in a row; not what is refused, not FAULTS. */
    static List<Long> answers(ForeheadMarks x) {
        List<Long> out = new ArrayList<>();
        for (int k = 0; k <= 10; k++) {
            out.add((long) x.has(k));
        }
        for (int k = 0; k < x.has(5); k++) {
            out.add((long) x.left(k));
        }
        for (int k = 0; k < x.has(8); k++) {
            for (int w = 0; w < 4; w++) {
                out.add((long) x.kept(k, w));
            }
        }
        for (int f = 0; f < x.has(3); f++) {
            for (int w = 0; w < 3; w++) {
                out.add((long) x.fact(f, w));
            }
        }
        for (int g = 0; g < x.has(1); g++) {
            ofGuest(x, g, out);
        }
        long[] others = {x.deep(), x.rests(), x.speaker(0), x.speaker(1), x.fits(-1), x.fits(0), x.tells(0), x.tells(1), x.tells(2)};
        for (long n : others) {
            out.add(n);
        }
        for (int k = 0; x.octet(k) >= 0; k++) {
            out.add((long) x.octet(k));
        }
        return out;
    }

    private static void ofGuest(ForeheadMarks x, int g, List<Long> out) {
        for (int k = 0; k < 6; k++) {
            out.add((long) x.letter(g, k));
        }
        for (int w = 0; w < 5; w++) {
            out.add((long) x.guest(g, w));
        }
        for (int h = 0; h < x.has(1); h++) {
            out.add((long) x.knows(g, h));
            out.add((long) x.secret(g, h));
        }
        long[] others = {x.learns(g), x.hints(g), x.slowest(g, 0), x.slowest(g, 1), x.odds(g, 0), x.odds(g, 20), x.could(g),
            x.later(g, 1)};
        for (long n : others) {
            out.add(n);
        }
    }

    /** The answers, and those of what comes next: by the seed, and by undoing all that can be. */
    static List<Long> future(ForeheadMarks x) {
        List<Long> out = answers(x);
        out.add((long) x.chance(2));
        out.add((long) x.deal());
        out.add((long) x.deal());
        for (int k = 0; k < 40 && x.undo(); k++) {
            out.add((long) x.has(4));
            out.add((long) x.has(5));
            out.add((long) x.left(0));
            out.add((long) x.has(8));
        }
        return out;
    }
}
