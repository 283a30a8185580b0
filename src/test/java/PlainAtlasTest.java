import java.lang.reflect.InvocationTargetException;
import java.lang.reflect.Method;
import java.nio.charset.StandardCharsets;
import java.util.HashMap;
import java.util.Map;
import java.util.Random;

/** Runs of calls that a fixed seed makes, on TextAtlas and on the plain reading of the document beside it. */
final class PlainAtlasTest {
    private static final int RUNS = 3000;
    private static final int CALLS = 512;
    private static final int[] POINTS = {0x41, 0x42, 0x43, 0x49, 0x61, 0x69, 0x307, 0x300, 0x301, 0x323, 0x327, 0x345, 0x3A3,
        0x1100, 0x1101, 0x1161, 0x11A8, 0xAC00, 0xAC01, 0xAC1C, 0x200D, 0x1F600, 0x10FFFF, 0};
    private static final String[] TRAITS = {"Composition_Exclusion", "Case_Ignorable", "Cased", "Soft_Dotted",
        "Extended_Pictographic", "Unified_Ideograph"};
    private static final String[] GCB = "Other CR LF Control Extend ZWJ Regional_Indicator Prepend SpacingMark L V T LV LVT".split(" ");
    private static final String[] WB = ("Other CR LF Newline Extend ZWJ Regional_Indicator Format Katakana Hebrew_Letter ALetter "
        + "MidLetter MidNum MidNumLet Single_Quote Double_Quote Numeric ExtendNumLet WSegSpace").split(" ");
    private static final String[] CONDITIONS =
        "tr az lt Final_Sigma After_Soft_Dotted More_Above Before_Dot Not_Before_Dot After_I".split(" ");
    private static final int[] CLASSES = {0, 0, 0, 1, 202, 220, 230, 230, 230, 240, 254};

    private static final Map<String, Method> REAL = methods(TextAtlas.class);
    private static final Map<String, Method> PLAIN = methods(PlainAtlas.class);

    private final Random random;
    private final TextAtlas real = new TextAtlas();
    private final PlainAtlas plain = new PlainAtlas();
    private final StringBuilder log = new StringBuilder();
    private boolean wrong;
    private int calls;

    private PlainAtlasTest(long seed) {
        random = new Random(seed * 0x9E3779B97F4A7C15L);
    }

    public static void main(String[] args) {
        long from = args.length > 0 ? Long.parseLong(args[0]) : 0;
        long runs = args.length > 1 ? Long.parseLong(args[1]) : RUNS;
        Map<String, Integer> seen = new HashMap<>();
        for (long seed = from; seed < from + runs; seed++) {
            PlainAtlasTest test = new PlainAtlasTest(seed);
            test.run(seen);
            if (test.wrong) {
                System.out.println("run with seed " + seed + ":\n" + test.log);
                System.exit(1);
            }
        }
        System.out.println(runs + " runs, all answers alike");
        if (args.length > 2) {
            seen.entrySet().stream().sorted(Map.Entry.comparingByKey()).forEach(System.out::println);
        }
    }

    private static Map<String, Method> methods(Class<?> face) {
        Map<String, Method> all = new HashMap<>();
        for (Method method : face.getDeclaredMethods()) {
            if (java.lang.reflect.Modifier.isPublic(method.getModifiers())) {
                all.put(method.getName(), method);
            }
        }
        return all;
    }

    private static String answer(Object object, Method method, Object[] args) {
        try {
            return String.valueOf(method.invoke(object, args));
        } catch (InvocationTargetException e) {
            return e.getCause().getClass().getSimpleName();
        } catch (IllegalAccessException e) {
            throw new IllegalStateException(e);
        }
    }

    /** Nothing at all once the run has had its calls: what later ones answer is free. */
    private String call(Map<String, Integer> seen, String name, Object... args) {
        if (calls >= CALLS) {
            return "";
        }
        calls++;
        String got = answer(real, REAL.get(name), args);
        String want = answer(plain, PLAIN.get(name), args);
        boolean thrown = want.endsWith("Exception");
        seen.merge(name + (thrown ? " " + want : want.matches("true|false") ? " " + want : ""), 1, Integer::sum);
        log.append(name).append(java.util.Arrays.toString(args)).append(" -> ").append(got);
        if (!got.equals(want.equals("ArrayIndexOutOfBoundsException") ? "IndexOutOfBoundsException" : want)) {
            log.append(", due is ").append(want);
            wrong = true;
        }
        log.append('\n');
        return want;
    }

    private void run(Map<String, Integer> seen) {
        int rounds = 1 + random.nextInt(2);
        for (int round = 0; round < rounds && !wrong; round++) {
            int lines = random.nextInt(50);
            for (int i = 0; i < lines && calls < CALLS - 60 && !wrong; i++) {
                int kind = random.nextInt(5);
                feed(seen, line(kind), random.nextInt(20) == 0);
                call(seen, "line", random.nextInt(60) == 0 ? random.nextInt(7) - 1 : kind);
            }
            String sealed = random.nextInt(40) == 0 ? "" : call(seen, "seal");
            if (sealed.equals("ArithmeticException")) {
                feed(seen, "0000..10FFFF;" + category() + ";0;;;;", false);
                call(seen, "line", 0);
                call(seen, "seal");
            }
            int most = round + 1 < rounds ? calls + (CALLS - calls) / 2 : CALLS;
            while (calls < most && !wrong) {
                free(seen);
            }
            if (round + 1 < rounds) {
                call(seen, "reset");
            }
        }
    }

    private void feed(Map<String, Integer> seen, String line, boolean broken) {
        StringBuilder all = new StringBuilder(line);
        if (broken && all.length() > 0) {
            int at = random.nextInt(all.length());
            char c = "; #.[]<>*0AFaLu\t\n\u00ff".charAt(random.nextInt(18));
            switch (random.nextInt(3)) {
                case 0 -> all.insert(at, c);
                case 1 -> all.setCharAt(at, c);
                default -> all.deleteCharAt(at);
            }
        }
        bytes(seen, all.toString().getBytes(StandardCharsets.ISO_8859_1));
    }

    private void bytes(Map<String, Integer> seen, byte[] bytes) {
        for (int i = 0; i < bytes.length; i += 20) {
            Object[] ints = new Object[5];
            for (int k = 0; k < 5; k++) {
                int value = 0;
                for (int b = i + 4 * k; b < i + 4 * k + 4; b++) {
                    value = value << 8 | (b < bytes.length ? bytes[b] & 0xFF : ' ');
                }
                ints[k] = value;
            }
            call(seen, "feed", ints);
        }
        if (bytes.length % 20 != 0 && random.nextInt(8) == 0) {
            call(seen, "end", bytes.length);
        }
    }

    // ---- lines

    private int point() {
        return random.nextInt(30) == 0 ? random.nextInt(0x110000) : POINTS[random.nextInt(POINTS.length)];
    }

    private static String hex(int point) {
        return String.format("%04X", point);
    }

    private String row(int most) {
        StringBuilder row = new StringBuilder();
        int many = 1 + random.nextInt(most);
        for (int k = 0; k < many; k++) {
            row.append(k == 0 ? "" : random.nextInt(9) == 0 ? " \t" : " ").append(hex(point()));
        }
        return row.toString();
    }

    private String codes() {
        int a = point();
        int b = random.nextInt(3) == 0 ? point() : a;
        String one = hex(a);
        return a == b && random.nextInt(9) != 0 ? one : a <= b || random.nextInt(20) == 0 ? one + ".." + hex(b) : hex(b) + ".." + one;
    }

    private String category() {
        return new String[] {"Lu", "Ll", "Lt", "Lo", "Mn", "So"}[random.nextInt(6)];
    }

    private String rarely(int of, String s) {
        return random.nextInt(of) == 0 ? s : "";
    }

    private String line(int kind) {
        return switch (kind) {
            case 0 -> fact();
            case 1 -> hex(point()) + ";" + rowOrNothing() + ";" + rowOrNothing() + ";" + rowOrNothing() + ";" + conditions();
            case 2 -> hex(point()) + ";" + "CFST".charAt(random.nextInt(4)) + ";" + row(random.nextInt(9) == 0 ? 19 : 3);
            case 3 -> codes() + rarely(5, " ") + ";" + property();
            default -> row(random.nextInt(30) == 0 ? 4 : 3) + ";" + elements();
        } + rarely(15, " # ;x");
    }

    private String rowOrNothing() {
        return random.nextInt(5) == 0 ? "" : row(random.nextInt(9) == 0 ? 19 : 3);
    }

    private String fact() {
        String range = random.nextInt(3) == 0 ? codes() : hex(point());
        boolean many = range.contains("..") && random.nextInt(10) != 0;
        String row = many || random.nextInt(2) == 0 ? "" : random.nextInt(3) == 0 ? "<x>" + rarely(2, " ") + row(4) : row(2);
        String cases = many ? ";;" : rarely(2, hex(point())) + ";" + rarely(2, hex(point())) + ";" + rarely(3, hex(point()));
        int ccc = CLASSES[random.nextInt(CLASSES.length)];
        return range + ";" + category() + ";" + (random.nextInt(50) == 0 ? 250 + random.nextInt(10) : ccc) + ";" + row + ";" + cases;
    }

    private String conditions() {
        StringBuilder all = new StringBuilder();
        int many = new int[] {0, 0, 1, 1, 1, 2, 3}[random.nextInt(7)];
        for (int k = 0; k < many; k++) {
            all.append(k == 0 ? "" : " ").append(CONDITIONS[random.nextInt(CONDITIONS.length)]);
        }
        return all.toString();
    }

    private String property() {
        return switch (random.nextInt(3)) {
            case 0 -> TRAITS[random.nextInt(TRAITS.length)];
            case 1 -> "GCB=" + GCB[random.nextInt(GCB.length)];
            default -> "WB=" + WB[random.nextInt(WB.length)];
        };
    }

    private String elements() {
        StringBuilder all = new StringBuilder();
        int many = random.nextInt(15) == 0 ? 1 + random.nextInt(19) : 1 + random.nextInt(3);
        for (int k = 0; k < many; k++) {
            all.append('[').append(random.nextInt(3) == 0 ? '*' : '.').append(weight()).append('.').append(weight()).append('.')
                .append(weight()).append(']').append(rarely(3, " "));
        }
        return all.toString();
    }

    private String weight() {
        return new String[] {"0000", "0001", "0002", "0020", "8000", "FFFF"}[random.nextInt(6)];
    }

    // ---- calls

    private int slot() {
        return random.nextInt(150) == 0 ? random.nextInt(2) * 9 - 1 : random.nextInt(3);
    }

    private int upTo(int most) {
        return random.nextInt(100) == 0 ? random.nextInt(2) * (most + 2) - 1 : random.nextInt(most + 1);
    }

    private int place(int t) {
        return upTo(t >= 0 && t < 8 ? plain.size(t) : 0);
    }

    private void free(Map<String, Integer> seen) {
        int t = slot();
        int u = slot();
        switch (random.nextInt(24)) {
            case 0, 1, 2, 3, 4, 5 -> {
                for (int k = 0; k < 3; k++) {
                    call(seen, "add", t, random.nextInt(200) == 0 ? 0x110000 : point());
                }
            }
            case 6 -> call(seen, "part", t, u, random.nextInt(2) == 0 ? 0 : place(u), place(u));
            case 7 -> call(seen, "point", t, place(t));
            case 8 -> call(seen, "size", t);
            case 9 -> call(seen, "normal", t, u, upTo(3));
            case 10 -> call(seen, "is", t, upTo(3));
            case 11 -> {
                if (t >= 0 && t < 8 && plain.size(t) < 60) {
                    call(seen, "join", slot(), t, u, upTo(3));
                } else {
                    call(seen, "part", t, t, 0, 0);
                }
            }
            case 12, 13 -> call(seen, "change", t, u, upTo(3), upTo(3));
            case 14 -> call(seen, "match", t, u, upTo(2));
            case 15, 16 -> call(seen, "edge", t, upTo(1), place(t));
            case 17 -> call(seen, "next", t, upTo(1), place(t), random.nextBoolean());
            case 18 -> {
                call(seen, "key", t, 1 + upTo(3), random.nextBoolean());
                someWords(seen);
            }
            case 19 -> call(seen, "compare", t, u, 1 + upTo(3), random.nextBoolean());
            case 20, 21 -> call(seen, "about", random.nextInt(90) == 0 ? -1 : point(), upTo(7));
            case 22 -> {
                call(seen, "bytes", t);
                call(seen, "word", random.nextInt(20) - 1);
                call(seen, "count", upTo(3));
            }
            default -> fromTape(seen, t);
        }
        if (random.nextInt(20) == 0 && t >= 0 && t < 8) {
            for (int i = 0; i < plain.size(t) && i < 12; i++) {
                call(seen, "point", t, i);
            }
        }
    }

    /** The first word, the last one, what is behind it, and some between. */
    private void someWords(Map<String, Integer> seen) {
        int many = plain.count(1);
        call(seen, "word", 0);
        call(seen, "word", many - 1);
        call(seen, "word", many);
        for (int k = 0; k < 5; k++) {
            call(seen, "word", random.nextInt(many + 1));
        }
    }

    private void fromTape(Map<String, Integer> seen, int t) {
        StringBuilder s = new StringBuilder();
        for (int k = random.nextInt(8); k > 0; k--) {
            s.appendCodePoint(point());
        }
        byte[] bytes = s.toString().getBytes(StandardCharsets.UTF_8);
        if (bytes.length > 0 && random.nextInt(3) == 0) {
            bytes[random.nextInt(bytes.length)] = (byte) random.nextInt(256);
        }
        bytes(seen, bytes);
        call(seen, "text", t);
    }
}
