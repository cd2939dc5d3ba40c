import java.io.IOException;
import java.lang.reflect.Constructor;
import java.lang.reflect.Field;
import java.lang.reflect.Method;
import java.lang.reflect.Modifier;
import java.nio.charset.StandardCharsets;
import java.nio.file.Files;
import java.nio.file.Path;
import java.util.ArrayList;
import java.util.Arrays;
import java.util.List;
import java.util.Random;
import java.util.TreeSet;
import java.util.regex.Matcher;
import java.util.regex.Pattern;

/** The public face; rules of LANGUAGE.md that can be seen in the file; calls with any arguments in any state. */
public final class SourceTest {
    private static final String FACE = "ask():long chance(int):int could(int):int deal():int deep():int end(int):boolean"
        + " fact(int,int):int fault(int):int feed(int,int,int,int,int):int fits(int):int guest(int,int):int has(int):int"
        + " hear():int hints(int):int image():int kept(int,int):int knows(int,int):int later(int,int):int learns(int):int"
        + " left(int):int letter(int,int):int octet(int):int odds(int,int):int on():boolean parlour():int rests():int"
        + " round():int says(int):int secret(int,int):int seed(int):boolean slowest(int,int):int speaker(int):int"
        + " status(int):int tell(int):int tells(int):int undo():boolean wear(int,int):boolean wears(int,int):int";

    private static String signature(Method m) {
        List<String> types = new ArrayList<>();
        for (Class<?> t : m.getParameterTypes()) {
            types.add(t.getName());
        }
        return m.getName() + "(" + String.join(",", types) + "):" + m.getReturnType().getName();
    }

    private static void face() {
        TreeSet<String> open = new TreeSet<>();
        TreeSet<String> names = new TreeSet<>();
        for (Method m : ForeheadMarks.class.getDeclaredMethods()) {
            if (!Modifier.isPrivate(m.getModifiers())) {
                open.add(signature(m));
                names.add(m.getName());
                TestKit.due("public " + m, Modifier.isPublic(m.getModifiers()), true);
            }
        }
        TestKit.due("the face: " + open, open.equals(new TreeSet<>(Arrays.asList(FACE.split(" ")))), true);
        for (Method m : ForeheadMarks.class.getDeclaredMethods()) {
            TestKit.due("private " + m, Modifier.isPrivate(m.getModifiers()) && names.contains(m.getName()), false);
        }
        TreeSet<String> constants = new TreeSet<>();
        for (Field f : ForeheadMarks.class.getDeclaredFields()) {
            if (!Modifier.isPrivate(f.getModifiers())) {
                constants.add(f.getName());
            }
        }
        TestKit.due("constants " + constants, constants.equals(new TreeSet<>(List.of("NONE", "NOTHING"))), true);
        Constructor<?>[] made = ForeheadMarks.class.getDeclaredConstructors();
        TestKit.due("constructors", made.length, 1);
        TestKit.due("final", Modifier.isFinal(ForeheadMarks.class.getModifiers()), true);
        for (Class<?> inner : ForeheadMarks.class.getDeclaredClasses()) {
            TestKit.due("static " + inner, Modifier.isStatic(inner.getModifiers()), true);
        }
        TestKit.due("classes", ForeheadMarks.class.getDeclaredClasses().length < 13, true);
    }

    private static void source() throws IOException {
        String text = Files.readString(Path.of("src/main/java/ForeheadMarks.java"));
        String code = text.replaceAll("(?s)/\\*.*?\\*/", " ").replaceAll("//[^\\n]*", " ").replaceAll("\"[^\"]*\"", "S");
        for (String word : "throw try catch synchronized assert import package throws volatile transient native goto".split(" ")) {
            TestKit.due("the word " + word, Pattern.compile("\\b" + word + "\\b").matcher(code).find(), false);
        }
        for (String piece : new String[] {"->", "::", "Exact", "System.out", "@", "Thread"}) {
            TestKit.due("the piece " + piece, code.contains(piece), false);
        }
        Matcher parameters = Pattern.compile("\\w+ \\w+\\(([^()]*)\\) \\{").matcher(code);
        while (parameters.find()) {
            TestKit.due("parameters " + parameters.group(), parameters.group(1).split(",").length <= 7, true);
        }
        methodLengths(text.split("\n"));
        TestKit.due("signs 1 to 127", text.chars().allMatch(c -> c > 0 && c < 128), true);
        // all objects are made with the one that holds them, so that calls make none
        Matcher made = Pattern.compile("(?m)^(.*)\\bnew\\b.*$").matcher(code);
        while (made.find()) {
            String ahead = made.group(1).strip();
            boolean field = ahead.startsWith("private ") || ahead.startsWith("final ") || ahead.equals("cell =");
            TestKit.due("made in a call: " + made.group(), field, true);
        }
    }

    private static void methodLengths(String[] lines) {
        Pattern head = Pattern.compile("^(    |        )(?!return |else |switch |while |for |if )(?:[\\w\\[\\]]+ )*\\w+\\([^)]*\\) \\{$");
        int methods = 0;
        for (int k = 0; k < lines.length; k++) {
            Matcher m = head.matcher(lines[k]);
            if (m.find()) {
                int end = k;
                while (end + 1 < lines.length && !lines[end].equals(m.group(1) + "}")) {
                    end++;
                }
                methods++;
                TestKit.due("lines of " + lines[k], end - k < 60, true);
            }
        }
        TestKit.due("methods", methods > 100, true);
    }

    private static final String[] TEXTS = {
        "marks 2;guest ann wears 1;guest bob wears 1;guest cy wears 0;rule sum>0;fact ann=1;fact bob+cy=1;slip 30;",
        "marks 4;guest a wears 3;guest b wears 2;guest c wears 1;guest d wears 0;guest e wears 3;blind a to b;"
            + "rule not[a=0 and b=0]or min(c,d)/(e-3)=count(count 2);fact kinds<4;fact top-low=3;slip 100;",
        "marks 3;", "first not sees(number+1)=could mark", "total rows*round/knows-min(1,max(2,3))", "least 0-rows*9999"};

    private static byte[] anyText(Random r) {
        byte[] b = TEXTS[r.nextInt(TEXTS.length)].getBytes(StandardCharsets.ISO_8859_1);
        int changes = r.nextInt(4);
        for (int k = 0; k < changes; k++) {
            int at = r.nextInt(b.length);
            b[at] = r.nextBoolean() ? (byte) r.nextInt(256) : b[r.nextInt(b.length)];
        }
        return Arrays.copyOf(b, r.nextInt(5) == 0 ? r.nextInt(b.length) : b.length);
    }

    private static byte[] imageOf(ForeheadMarks x, Random r) {
        byte[] b = new byte[Math.max(0, x.image())];
        for (int k = 0; k < b.length; k++) {
            b[k] = (byte) x.octet(k);
        }
        if (r.nextBoolean()) {
            b[r.nextInt(b.length)] ^= 1 << r.nextInt(8);
        }
        return b;
    }

    private static int any(Random r) {
        int[] odd = {Integer.MIN_VALUE, Integer.MAX_VALUE, -1, -2, 1024, 1 << 16, -1 << 20, Integer.MAX_VALUE / 5 + 1};
        return r.nextInt(4) == 0 ? odd[r.nextInt(odd.length)] : r.nextInt(8) == 0 ? r.nextInt(1100) : r.nextInt(7) - 1;
    }

    private static void anyCall(ForeheadMarks x, Method m, Random r) throws ReflectiveOperationException {
        if (r.nextInt(3) == 0) {
            switch (m.getName()) {
                case "parlour", "ask" -> TestKit.put(x, anyText(r));
                case "on" -> TestKit.put(x, imageOf(x, r));
                case "hear" -> TestKit.put(x, r.nextInt(16), r.nextInt(3), r.nextInt(2));
                default -> { }
            }
        }
        Object[] with = new Object[m.getParameterCount()];
        for (int k = 0; k < with.length; k++) {
            with[k] = any(r);
        }
        m.invoke(x, with);
    }

    private static void anyCalls() throws ReflectiveOperationException {
        List<Method> methods = new ArrayList<>();
        for (Method m : ForeheadMarks.class.getDeclaredMethods()) {
            if (Modifier.isPublic(m.getModifiers())) {
                methods.add(m);
            }
        }
        methods.sort((a, b) -> signature(a).compareTo(signature(b)));
        Random r = new Random(12);
        int thrown = 0;
        for (int run = 0; run < 300; run++) {
            ForeheadMarks x = new ForeheadMarks();
            TestKit.put(x, TEXTS[run % 3]);
            if (run % 4 != 0) {
                x.parlour();
            }
            for (int k = 0; k < 512; k++) {
                Method m = methods.get(r.nextInt(methods.size()));
                try {
                    anyCall(x, m, r);
                } catch (java.lang.reflect.InvocationTargetException e) {
                    thrown++;
                    System.out.println(signature(m) + " threw " + e.getCause());
                }
            }
        }
        TestKit.due("calls that threw", thrown, 0);
    }

    public static void main(String[] args) throws IOException, ReflectiveOperationException {
        face();
        source();
        anyCalls();
        TestKit.finish();
    }
}
