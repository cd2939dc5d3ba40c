import java.nio.charset.StandardCharsets;

/** What the tests of the project share: feeding texts, and comparing answers. */
final class TestKit {
    private static int wrong = 0;
    private static int asked = 0;

    private TestKit() {
    }

    static void due(String call, long got, long want) {
        asked++;
        if (got != want) {
            wrong++;
            if (wrong <= 50) {
                System.out.println(call + " answered " + got + ", due is " + want);
            }
        }
    }

    static void due(String call, boolean got, boolean want) {
        due(call, got ? 1 : 0, want ? 1 : 0);
    }

    static int wrongSoFar() {
        return wrong;
    }

    static void finish() {
        System.out.println(asked + " answers, " + wrong + " not as due");
        if (wrong != 0 || asked == 0) {
            System.exit(1);
        }
    }

    /** Puts bytes, and these alone, on the tape. */
    static void put(ForeheadMarks x, byte[] bytes) {
        x.end(0);
        for (int at = 0; at < bytes.length; at += 20) {
            int[] n = new int[5];
            for (int k = 0; k < 20; k++) {
                int b = at + k < bytes.length ? bytes[at + k] & 255 : 32;
                n[k / 4] = n[k / 4] << 8 | b;
            }
            x.feed(n[0], n[1], n[2], n[3], n[4]);
        }
        x.end(bytes.length);
    }

    static void put(ForeheadMarks x, String text) {
        put(x, text.getBytes(StandardCharsets.ISO_8859_1));
    }

    static void put(ForeheadMarks x, int... bytes) {
        byte[] b = new byte[bytes.length];
        for (int k = 0; k < b.length; k++) {
            b[k] = (byte) bytes[k];
        }
        put(x, b);
    }

    static ForeheadMarks with(String text) {
        ForeheadMarks x = new ForeheadMarks();
        put(x, text);
        if (x.parlour() < 0) {
            due("parlour() of " + text + ", fault " + x.fault(0) + " at " + x.fault(1), -1, 0);
        }
        return x;
    }

    static long ask(ForeheadMarks x, String text) {
        put(x, text);
        return x.ask();
    }
}
