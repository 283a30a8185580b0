/** An object every part of which holds something, so that whatever a refused call changed can be seen. */
final class Scene {
    static final int TAPE_LENGTH = 3;
    static final String TAPE = "abc";

    private static final String[][] LINES = {
        {"0041;Lu;0;;;0061;", "0301;Mn;230;;;;", "00C1;Lu;0;0041 0301;;;", "0132;Lu;0;<c>0049 004A;;;"},
        {"0042;0062 0062;;;"},
        {"0043;F;0063 0063"},
        {"0044;GCB=CR", "0045;GCB=LF", "0046;WB=ALetter", "0047;Cased"},
        {"0041;[.1000.0020.0002]"}};
    private static final String[] TEXTS = {"0041", "00C1 0042", "0041 0301 0043", "0132", "0044 0045", "0046 0046", "0047 D800", ""};
    private static final int[] POINTS = {0x41, 0x42, 0x43, 0x44, 0x46, 0x47, 0xC1, 0x132, 0x301};

    interface Step {
        Object run(TextAtlas x);
    }

    final Bench bench;
    final TextAtlas atlas;

    Scene(boolean sealed) {
        this(new Bench(), sealed);
    }

    /** On an object that has lived before, but has no DATA and nothing on its tape. */
    Scene(Bench used, boolean sealed) {
        bench = used;
        atlas = used.atlas;
        for (int kind = 0; kind < LINES.length; kind++) {
            for (String line : LINES[kind]) {
                bench.line(kind, line);
            }
        }
        if (sealed) {
            atlas.seal();
        }
        for (int t = 0; t < TEXTS.length; t++) {
            bench.put(t, TEXTS[t]);
        }
        atlas.bytes(1);
        bench.tape(TAPE);
    }

    Scene retape(String latin) {
        atlas.end(0);
        bench.tape(latin);
        return this;
    }

    /** All that can be seen from outside; the object is worn out afterwards. */
    String all() {
        StringBuilder all = new StringBuilder();
        for (int what = 0; what < 4; what++) {
            all.append("count ").append(what).append(": ").append(atlas.count(what)).append('\n');
        }
        for (int t = 0; t < 8; t++) {
            all.append("text ").append(t).append(": ").append(bench.show(t)).append('\n');
        }
        all.append("result: ").append(bench.result()).append('\n');
        all.append("tape: ").append(Bench.answer(() -> atlas.text(7))).append(' ').append(bench.show(7)).append('\n');
        if (atlas.count(3) == 0) {
            all.append("seal: ").append(Bench.answer(() -> atlas.seal())).append('\n');
        }
        return all.append(data()).toString();
    }

    private String data() {
        StringBuilder all = new StringBuilder();
        for (int point : POINTS) {
            for (int what = 0; what < 8; what++) {
                all.append(atlas.about(point, what)).append(' ');
            }
        }
        bench.put(0, "0041 0042 0043 0046 0047");
        for (int kind = 0; kind < 4; kind++) {
            atlas.change(1, 0, kind, 1);
            all.append('\n').append(bench.show(1));
        }
        all.append("\nkey: ").append(atlas.key(0, 3, false)).append(' ').append(bench.result());
        return all.toString();
    }

    /** The call throws that, and nothing has changed. */
    static void refused(String what, boolean sealed, String exception, Step call) {
        Scene scene = new Scene(sealed);
        Bench.dueOf(what, () -> call.run(scene.atlas), exception);
        Bench.due(what + ": what stands afterwards", scene.all(), new Scene(sealed).all());
    }

    /** The call, which reads this tape, throws that; the tape is empty, and nothing else has changed. */
    static void refusedReading(String tape, String exception, Step call) {
        Scene scene = new Scene(false).retape(tape);
        String what = "with '" + tape + "' on the tape";
        Bench.dueOf(what, () -> call.run(scene.atlas), exception);
        Bench.due(what + ": what stands afterwards", scene.all(), new Scene(false).retape("").all());
    }
}
