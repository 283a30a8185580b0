import java.nio.charset.StandardCharsets;

/**
 * "A call that throws changes nothing, but as said": every refused call but those for a number out of range
 * (RangeTest) and for want of room (FullTest), with all that stands afterwards.
 */
final class RefusalTest {
    private static final String STATE = "IllegalStateException";
    private static final String UNSUPPORTED = "UnsupportedOperationException";
    private static final String BOUNDS = "IndexOutOfBoundsException";

    public static void main(String[] args) {
        linesOfSealedData();
        linesThatAreNone();
        seal();
        texts();
        points();
        bytes();
        words();
        notSealed();
        Bench.finish();
    }

    /** The tape stays, be it a line or none. */
    private static void linesOfSealedData() {
        for (String tape : new String[] {"0041;Lu;0;;;;", "abc", ""}) {
            for (int k = 0; k < 5; k++) {
                int kind = k;
                Scene scene = new Scene(true).retape(tape);
                Bench.state("line(" + kind + ") when sealed", () -> scene.atlas.line(kind));
                Bench.due("what stands after line(" + kind + ") when sealed", scene.all(), new Scene(true).retape(tape).all());
            }
        }
    }

    /** Each begins like a good line and would tell of what the scene holds; only the tape is emptied. */
    private static void linesThatAreNone() {
        none(0, "", "#", "0000..10FFFF;Zs;7;;;;x", "0000..10FFFF;Zs;7;0041;;;", "0041;Zs;7;;0061;;0", "00C1;Zs;9;0041 0302;;;110000");
        none(1, "0042;0001;0002;0003", "0042;0001;0002;0003;tr tr", "0042;0001;0002;0003 3;", "0042;0001;0002;0003;After_");
        none(2, "0043;F;0001 00002", "0043;f;0001", "0043;F;", "0043;F;0001;");
        none(3, "0000..10FFFF;GCB=CRLF", "0000..10FFFF;WB=Prepend", "0000..10FFFF;Cased;", "0000..110000;Cased");
        none(4, "0041;[.2000.0020.0002][.2000.0020]", "0041;[.2000.0020.0002]x", "0041 41;[.2000.0020.0002]", "0041;[.2000.0020.0002];");
    }

    private static void none(int kind, String... tapes) {
        for (String tape : tapes) {
            Scene.refusedReading(tape, UNSUPPORTED, x -> x.line(kind));
        }
    }

    private static void seal() {
        Scene.refused("seal of sealed ones", true, STATE, x -> x.seal());
        Scene scene = unsound();
        Bench.arithmetic("seal of unsound ones", () -> scene.atlas.seal());
        Bench.arithmetic("seal of unsound ones, again", () -> scene.atlas.seal());
        Bench.due("what stands after seal of unsound ones", mended(scene), mended(unsound()));
    }

    private static Scene unsound() {
        Scene scene = new Scene(false).retape("");
        scene.bench.line(0, "0050;Lu;0;0051;;;");
        scene.bench.line(0, "0051;Lu;0;0050;;;");
        return scene;
    }

    private static String mended(Scene scene) {
        Bench.due("not sealed", scene.atlas.count(3), 0);
        Bench.due("lines stay", scene.atlas.count(2), 13);
        scene.bench.line(0, "0051;Lu;0;;;;");
        return scene.all();
    }

    private static void texts() {
        for (String bad : new String[] {"\u0080", "abc\u00ff", "\u00c3", "\u00ed\u00a0\u0080", "\u00f4\u0090\u0080\u0080"}) {
            for (int k = 0; k < 8; k++) {
                int t = k;
                Scene.refusedReading(bad, UNSUPPORTED, x -> x.text(t));
            }
        }
        Scene sealed = new Scene(true).retape("\u00ff");
        Bench.unsupported("text when sealed", () -> sealed.atlas.text(1));
        Bench.due("what stands after it", sealed.all(), new Scene(true).retape("").all());
    }

    private static void points() {
        for (boolean sealed : new boolean[] {false, true}) {
            for (int i : new int[] {-1, 3, Integer.MIN_VALUE, Integer.MAX_VALUE}) {
                Scene.refused("point(2, " + i + ")", sealed, BOUNDS, x -> x.point(2, i));
            }
            Scene.refused("point(7, 0)", sealed, BOUNDS, x -> x.point(7, 0));
        }
        Scene scene = new Scene(false);
        Bench.due("point(2, 0)", scene.atlas.point(2, 0), 0x41);
        Bench.due("point(2, 2)", scene.atlas.point(2, 2), 0x43);
        Bench.argument("a wrong slot before a wrong place", () -> scene.atlas.point(8, 9));
    }

    private static void bytes() {
        for (boolean sealed : new boolean[] {false, true}) {
            Scene.refused("bytes of D800", sealed, UNSUPPORTED, x -> x.bytes(6));
        }
        for (int point : new int[] {0xD800, 0xDBFF, 0xDC00, 0xDFFF}) {
            for (int place = 0; place < 3; place++) {
                String points = "41 ".repeat(place) + Integer.toHexString(point) + " 42".repeat(2 - place);
                Bench b = new Bench().put(0, "43").put(1, points);
                b.atlas.bytes(0);
                Bench.unsupported("bytes of " + points, () -> b.atlas.bytes(1));
                Bench.due("result stays", b.result(), "43");
            }
        }
        Bench b = new Bench().put(0, "D7FF E000");
        Bench.due("bytes of the neighbours", b.atlas.bytes(0), 6);
        Bench.due("result", b.result(), "ED9FBFEE8080");
    }

    private static void words() {
        for (boolean sealed : new boolean[] {false, true}) {
            for (int i : new int[] {-1, 3, Integer.MIN_VALUE, Integer.MAX_VALUE, Integer.MAX_VALUE - 7}) {
                Scene.refused("word(" + i + ")", sealed, BOUNDS, x -> x.word(i));
            }
        }
        Scene scene = new Scene(false);
        Bench.due("word(0)", Long.toHexString(scene.atlas.word(0)), "c381420000000000");
        Bench.due("word(2)", Long.toHexString(scene.atlas.word(2)), "4200000000000000");
    }

    /** (*): all calls that need SEALED ones say so, and before they say anything of room. */
    private static void notSealed() {
        Scene.Step[] calls = {x -> x.normal(1, 2, 0), x -> x.is(2, 0), x -> x.join(0, 1, 2, 2), x -> x.change(0, 2, 0, 0),
            x -> x.match(1, 2, 1), x -> x.edge(2, 0, 0), x -> x.next(2, 1, 0, false), x -> x.key(2, 3, true),
            x -> x.compare(1, 2, 3, false), x -> x.about(0x41, 0)};
        for (int k = 0; k < calls.length; k++) {
            Scene.refused("call " + k + " of those that need sealed data", false, STATE, calls[k]);
            Scene.Step call = calls[k];
            Scene after = new Scene(true);
            after.atlas.reset();
            Bench.state("call " + k + " after reset", () -> call.run(after.bench.put(1, "41").put(2, "41").atlas));
        }
        Bench full = new Bench().tape("x".repeat(2000).getBytes(StandardCharsets.ISO_8859_1));
        full.atlas.text(0);
        Bench.state("join of too much, not sealed", () -> full.atlas.join(1, 0, 0, 0));
        full.sealed();
        Bench.bounds("join of too much, sealed", () -> full.atlas.join(1, 0, 0, 0));
        Bench.argument("join of too much in no form", () -> full.atlas.join(1, 0, 0, 4));
    }
}
