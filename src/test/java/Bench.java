import java.nio.charset.StandardCharsets;

/** What the tests share: an object under test, short ways to call it, and the tally of wrong answers. */
final class Bench {
    private static int wrong;
    private static int checks;

    final TextAtlas atlas = new TextAtlas();

    interface Call {
        Object run();
    }

    static void due(String what, Object got, Object want) {
        checks++;
        if (!String.valueOf(got).equals(String.valueOf(want))) {
            wrong++;
            System.out.println(what + " answered " + got + ", due is " + want);
        }
    }

    /** The answer as a text, or the name of what was thrown. */
    static String answer(Call call) {
        try {
            return String.valueOf(call.run());
        } catch (RuntimeException e) {
            return e.getClass().getSimpleName();
        }
    }

    static void dueOf(String what, Call call, Object want) {
        due(what, answer(call), want);
    }

    static void argument(String what, Call call) {
        dueOf(what, call, "IllegalArgumentException");
    }

    static void state(String what, Call call) {
        dueOf(what, call, "IllegalStateException");
    }

    static void unsupported(String what, Call call) {
        dueOf(what, call, "UnsupportedOperationException");
    }

    static void bounds(String what, Call call) {
        dueOf(what, call, "IndexOutOfBoundsException");
    }

    static void arithmetic(String what, Call call) {
        dueOf(what, call, "ArithmeticException");
    }

    static void finish() {
        System.out.println(checks + " checks, " + wrong + " wrong");
        if (wrong != 0 || checks == 0) {
            System.exit(1);
        }
    }

    Bench tape(byte[] bytes) {
        int have = atlas.count(0);
        for (int i = 0; i < bytes.length; i += 20) {
            atlas.feed(intAt(bytes, i), intAt(bytes, i + 4), intAt(bytes, i + 8), intAt(bytes, i + 12),
                intAt(bytes, i + 16));
        }
        atlas.end(have + bytes.length);
        return this;
    }

    Bench tape(String latin) {
        return tape(latin.getBytes(StandardCharsets.ISO_8859_1));
    }

    private static int intAt(byte[] bytes, int i) {
        int value = 0;
        for (int k = i; k < i + 4; k++) {
            value = value << 8 | (k < bytes.length ? bytes[k] & 0xFF : 0);
        }
        return value;
    }

    /** A line that blanks fill up to 20 bytes, or 40 and so on: no more calls than it needs. */
    int shortLine(int kind, String line) {
        byte[] bytes = (line + " ".repeat(19 - (line.length() + 19) % 20)).getBytes(StandardCharsets.ISO_8859_1);
        for (int i = 0; i < bytes.length; i += 20) {
            atlas.feed(intAt(bytes, i), intAt(bytes, i + 4), intAt(bytes, i + 8), intAt(bytes, i + 12), intAt(bytes, i + 16));
        }
        return atlas.line(kind);
    }

    int line(int kind, String line) {
        return tape(line).atlas.line(kind);
    }

    /** Lines of one kind that have to be taken. */
    Bench lines(int kind, String... lines) {
        for (String line : lines) {
            dueOf("line(" + kind + ") of " + line, () -> line(kind, line) > 0, true);
        }
        return this;
    }

    /** Lines of one kind that are none: nothing is taken, and the tape is empty afterwards. */
    Bench none(int kind, String... lines) {
        for (String line : lines) {
            int before = atlas.count(2);
            unsupported("line(" + kind + ") of '" + line + "'", () -> line(kind, line));
            due("tape after '" + line + "'", atlas.count(0), 0);
            due("lines after '" + line + "'", atlas.count(2), before);
        }
        return this;
    }

    Bench sealed() {
        dueOf("seal", () -> atlas.seal() >= 0, true);
        return this;
    }

    /** The slot gets these points, given in hexadecimal with blanks between. */
    Bench put(int t, String points) {
        atlas.part(t, t, 0, 0);
        for (String point : points.trim().split(" +")) {
            if (!point.isEmpty()) {
                atlas.add(t, Integer.parseInt(point, 16));
            }
        }
        return this;
    }

    /** The slot gets a text by way of the tape: few calls for a long one. */
    Bench write(int t, String text) {
        tape(text.getBytes(StandardCharsets.UTF_8)).atlas.text(t);
        return this;
    }

    String show(int t) {
        StringBuilder out = new StringBuilder();
        for (int i = 0; i < atlas.size(t); i++) {
            out.append(i == 0 ? "" : " ").append(String.format("%04X", atlas.point(t, i)));
        }
        return out.toString();
    }

    String result() {
        StringBuilder out = new StringBuilder();
        for (int i = 0; i < atlas.count(1); i += 8) {
            String hex = String.format("%016X", atlas.word(i));
            out.append(hex, 0, 2 * Math.min(8, atlas.count(1) - i));
        }
        return out.toString();
    }

    /** 2 to the power of doublings copies of the points, by joins: few calls for a long text. */
    Bench grow(int t, String points, int doublings) {
        put(t, points);
        for (int i = 0; i < doublings; i++) {
            atlas.join(t, t, t, 0);
        }
        return this;
    }
}
