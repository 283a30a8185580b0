/** Promise 6 (reset): an object that has lived before is like a new one, but for its TAPE and its RESULT. */
final class ResetTest {
    private static final String ELEMENT = "[.7777.0077.0007]";

    public static void main(String[] args) {
        answers();
        tapeAndResultStay();
        nothingIsLeft(false);
        nothingIsLeft(true);
        sceneAfterOtherLives();
        sameLinesAgain();
        pairsOfAnotherLife();
        unsoundOnes();
        Bench.finish();
    }

    private static void answers() {
        Bench b = new Bench();
        Bench.due("of a new object", b.atlas.reset(), 0);
        b.lines(0, "0041;Lu;0;;;;");
        Bench.due("of open data", b.atlas.reset(), 0);
        b.sealed();
        Bench.due("of sealed data", b.atlas.reset(), 1);
        Bench.due("not sealed any more", b.atlas.count(3), 0);
        Bench.due("again", b.atlas.reset(), 0);
    }

    private static void tapeAndResultStay() {
        for (boolean sealed : new boolean[] {false, true}) {
            Scene scene = new Scene(sealed);
            Bench.due("sealed", scene.atlas.reset(), sealed ? 1 : 0);
            Bench.due("tape", scene.atlas.count(0), Scene.TAPE_LENGTH);
            Bench.due("result", scene.bench.result(), "C38142");
            Bench.due("lines", scene.atlas.count(2), 0);
            for (int t = 0; t < 8; t++) {
                Bench.due("text " + t, scene.atlas.size(t), 0);
            }
            scene.atlas.text(0);
            Bench.due("what was on the tape", scene.bench.show(0), "0061 0062 0063");
        }
    }

    /** Everything told of everything, and of the first and the last point by each kind of line. */
    private static Bench told() {
        Bench b = new Bench().lines(0, "0000..10FFFF;Lu;9;;;;", "0000;Ll;8;0041 0042;0001;0002;0003", "10FFFF;Ll;8;<x>0041 0042;0001;0002;0003");
        b.lines(1, "0000;0004;0005;0006;", "10FFFF;0004;0005;0006;", "0041;0004;0005;0006;tr");
        for (String letter : new String[] {"C", "F", "S", "T"}) {
            b.lines(2, "0000;" + letter + ";0007", "10FFFF;" + letter + ";0007", "0041;" + letter + ";0007");
        }
        b.lines(3, "0000..10FFFF;GCB=LF", "0000..10FFFF;WB=LF", "0000..10FFFF;Cased", "0000..10FFFF;Case_Ignorable", "0000..10FFFF;Soft_Dotted");
        b.lines(3, "0000..10FFFF;Composition_Exclusion", "0000..10FFFF;Extended_Pictographic", "0000..10FFFF;Unified_Ideograph");
        return b.lines(4, "0000;" + ELEMENT, "0041;" + ELEMENT, "10FFFF;" + ELEMENT, "0041 0301;" + ELEMENT);
    }

    private static void nothingIsLeft(boolean sealed) {
        Bench b = told();
        if (sealed) {
            b.sealed();
        }
        b.atlas.reset();
        Bench.due("no pairs", b.atlas.seal(), 0);
        untold(b);
    }

    /** What is asked of the first, a middle and the last point is as if nothing had been told. */
    private static void untold(Bench b) {
        int[] untold = {'C' * 256 + 'n', 0, 0, 0, 1, 1, 0, 0};
        String points = "0000 0041 10FFFF";
        for (int point : new int[] {0, 0x41, 0x301, 0x10FFFF}) {
            for (int what = 0; what < 8; what++) {
                Bench.due("about " + point + " " + what, b.atlas.about(point, what), untold[what]);
            }
        }
        b.put(0, points);
        for (int kind = 0; kind < 4; kind++) {
            b.atlas.change(1, 0, kind, 1);
            Bench.due("change " + kind, b.show(1), points);
        }
        for (int form = 0; form < 4; form++) {
            b.atlas.normal(1, 0, form);
            Bench.due("form " + form, b.show(1), points);
        }
        for (int i = 0; i <= 3; i++) {
            Bench.due("graphemes " + i, b.atlas.edge(0, 0, i), true);
            Bench.due("words " + i, b.atlas.edge(0, 1, i), true);
        }
        b.atlas.key(0, 1, false);
        Bench.due("key", b.result(), "FBC08000FBC08041FBE1FFFF");
    }

    /** Lines that cut ranges anew find nothing of what was told in the life before. */
    private static void sceneAfterOtherLives() {
        String fresh = new Scene(true).all();
        Bench heavy = told();
        heavy.sealed().atlas.reset();
        Bench.due("behind a life of all kinds of lines", new Scene(heavy, true).all(), fresh);
        Bench cuts = new Bench();
        for (int point = 0x40; point < 0x50; point += 2) {
            String code = String.format("%04X", point);
            for (String letter : new String[] {"C", "F", "T"}) {
                cuts.shortLine(2, code + ";" + letter + ";0001");
            }
            cuts.shortLine(1, code + ";0001;0001;;");
            cuts.shortLine(3, code + ";WB=CR");
        }
        Bench.due("lines of many cuts", cuts.atlas.count(2), 40);
        cuts.atlas.reset();
        Bench.due("behind a life of many cuts", new Scene(cuts, true).all(), fresh);
        Bench once = new Bench().lines(4, "0042;" + ELEMENT, "0043;" + ELEMENT);
        once.atlas.reset();
        Bench.due("behind a life of rows", new Scene(once, true).all(), fresh);
    }

    private static void sameLinesAgain() {
        Bench b = new Bench();
        for (int life = 0; life < 3; life++) {
            b.lines(0, "00C1;Lu;0;0041 0301;;;", "0301;Mn;230;;;;").lines(4, "0041;" + ELEMENT);
            Bench.due("lines in life " + life, b.atlas.count(2), 3);
            Bench.due("pairs in life " + life, b.atlas.seal(), 1);
            b.put(0, "41").atlas.key(0, 1, false);
            Bench.due("key in life " + life, b.result(), "7777");
            b.atlas.reset();
        }
        b.sealed().put(0, "41").atlas.key(0, 1, false);
        Bench.due("key without the row", b.result(), "FBC08041");
    }

    private static void pairsOfAnotherLife() {
        Bench b = new Bench().lines(0, "00C1;Lu;0;0041 0301;;;", "00C0;Lu;0;0041 0300;;;").sealed();
        b.atlas.reset();
        b.sealed().put(0, "0041 0301 0041 0300 00C1").atlas.normal(0, 0, 2);
        Bench.due("no pairs any more", b.show(0), "0041 0301 0041 0300 00C1");
        Bench.due("no second of a pair", b.atlas.about(0x301, 7), 0);
    }

    private static void unsoundOnes() {
        Bench b = new Bench().lines(0, "0041;Lu;0;0041;;;");
        Bench.arithmetic("not sound", () -> b.atlas.seal());
        Bench.due("reset", b.atlas.reset(), 0);
        Bench.due("sound without data", b.atlas.seal(), 0);
        Bench never = new Bench().lines(0, "0041;Lu;0;0041;;;");
        never.atlas.reset();
        Bench.due("sound though seal was never asked before", never.atlas.seal(), 0);
        Bench shape = new Bench().lines(0, "0041;Lu;0;0042 0043 0044;;;", "AC00;Lo;0;0041;;;");
        shape.atlas.reset();
        Bench.due("shapes", shape.lines(0, "0041;Lu;0;0042 0043;;;").atlas.seal(), 1);
    }
}
