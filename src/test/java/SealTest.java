/** Promise 5 (seal), and what is SOUND. */
final class SealTest {
    public static void main(String[] args) {
        states();
        mended();
        firstAndLastPoint();
        shapes();
        circles();
        lengths();
        pairs();
        hangul();
        longChain();
        Bench.finish();
    }

    private static void unsound(String what, String... facts) {
        Bench b = new Bench().lines(0, facts);
        Bench.arithmetic(what, () -> b.atlas.seal());
        Bench.due(what + ": not sealed", b.atlas.count(3), 0);
        Bench.due(what + ": lines stay", b.atlas.count(2), facts.length);
    }

    private static void sound(String what, int pairs, String... facts) {
        Bench b = new Bench().lines(0, facts);
        Bench.dueOf(what, () -> b.atlas.seal(), pairs);
        Bench.due(what + ": sealed", b.atlas.count(3), 1);
    }

    private static void states() {
        Bench b = new Bench().lines(0, "0041;Lu;0;0041;;;");
        Bench.arithmetic("not sound", () -> b.atlas.seal());
        b.lines(0, "0041;Lu;0;0042 0043;;;");
        Bench.due("mended by a line more", b.atlas.seal(), 1);
        Bench.state("sealed already", () -> b.atlas.seal());
        b.atlas.reset();
        Bench.due("after reset", b.atlas.seal(), 0);
    }

    /** Whatever was refused, and however often: what stands at last decides. */
    private static void mended() {
        String ten = "<a>0050 0050 0050 0050 0050 0050 0050 0050 0050 0050";
        Bench longOnes = new Bench().lines(0, "0042;Lu;0;" + ten + ";;;", "0030;Lu;0;<a>0042 0042 0042 0042;;;", "0031;Lu;0;0030;;;",
            "0032;Lu;0;0030;;;", "0033;Lu;0;0030;;;", "0041;Lu;0;<a>0042 0042 0042 0042 0042;;;", "0043;Lu;0;0041 0042;;;");
        Bench circle = new Bench().lines(0, "0041;Lu;0;0042 0045;;;", "0042;Lu;0;<a>0043;;;", "0043;Lu;0;0042;;;");
        Bench pairs = new Bench().lines(0, "0041;Lu;0;0043 0044;;;", "0042;Lu;0;0043 0044;;;");
        for (Bench b : new Bench[] {longOnes, circle, pairs}) {
            for (int i = 0; i < 150; i++) {
                Bench.arithmetic("refused " + i, () -> b.atlas.seal());
            }
            b.lines(0, "0041;Lu;0;;;;", "0043;Lu;0;0044 0045;;;");
            Bench.dueOf("mended", () -> b.atlas.seal(), b == pairs ? 2 : 1);
        }
        Bench.due("ten", longOnes.atlas.about(0x42, 5), 10);
        Bench.due("two", circle.atlas.about(0x42, 5), 2);
    }

    private static void shapes() {
        unsound("three points", "0041;Lu;0;0042 0043 0044;;;");
        sound("three points, compatible", 0, "0041;Lu;0;<a>0042 0043 0044;;;");
        sound("one point", 0, "0041;Lu;0;0042;;;");
        sound("two points", 1, "0041;Lu;0;0042 0043;;;");
        unsound("eighteen points", "0041;Lu;0;" + "0042 ".repeat(18) + ";;;");
        sound("eighteen points, compatible", 0, "0041;Lu;0;<a>" + "0042 ".repeat(18) + ";;;");
        unsound("three points, of class above 0", "0041;Mn;9;0042 0043 0044;;;");
        sound("of the first point", 1, "0000;Lu;0;0042 0043;;;");
        unsound("three points, of the first point", "0000;Lu;0;0042 0043 0044;;;");
        unsound("of the last point", "10FFFF;Lu;0;0042 10FFFF;;;");
        sound("replaced", 0, "0041;Lu;0;0042 0043 0044;;;", "0040..0042;Lu;0;;;;");
    }

    private static void firstAndLastPoint() {
        for (String point : new String[] {"0000", "10FFFF"}) {
            unsound("itself: " + point, point + ";Lu;0;" + point + ";;;");
            unsound("itself, compatible: " + point, point + ";Lu;0;<a>0042 " + point + ";;;");
            Bench b = new Bench().lines(0, point + ";Lu;0;0042 0043;;;").sealed();
            Bench.due("length", b.atlas.about(Integer.parseInt(point, 16), 4), 2);
            b.put(0, point).atlas.normal(0, 0, 0);
            Bench.due("decomposed", b.show(0), "0042 0043");
            b.atlas.normal(0, 0, 2);
            Bench.due("composed", b.show(0), point);
        }
    }

    private static void circles() {
        unsound("itself", "0041;Lu;0;0041;;;");
        unsound("itself, compatible", "0041;Lu;0;<a>0042 0041;;;");
        unsound("two", "0041;Lu;0;0042;;;", "0042;Lu;0;0041;;;");
        unsound("of both kinds", "0041;Lu;0;0042;;;", "0042;Lu;0;<a>0041;;;");
        unsound("behind a good one", "0041;Lu;0;0042 0043;;;", "0043;Lu;0;<a>0044;;;", "0044;Lu;0;0043;;;");
        unsound("in the last place", "0041;Lu;0;<a>" + "0042 ".repeat(17) + "0041;;;");
        unsound("of three", "0041;Lu;0;0042;;;", "0042;Lu;0;0043;;;", "0043;Lu;0;0041;;;");
        unsound("of three, told backwards", "0043;Lu;0;0042;;;", "0042;Lu;0;0041;;;", "0041;Lu;0;0043;;;");
        unsound("first and last point", "0000;Lu;0;10FFFF;;;", "10FFFF;Lu;0;<a>0000;;;");
        unsound("of an excluded one", "0041;Mn;9;0042 0041;;;");
        sound("a circle that was told no more", 0, "0041;Lu;0;0042;;;", "0042;Lu;0;0041;;;", "0042;Lu;0;;;;");
        sound("the same by two ways is no circle", 3, "0041;Lu;0;0042 0043;;;", "0042;Lu;0;0044 0045;;;", "0043;Lu;0;0044 0046;;;");
        sound("the same twice is no circle", 1, "0041;Lu;0;0042 0042;;;", "0042;Lu;0;0043;;;");
    }

    private static void lengths() {
        String ten = "<a>0050 0050 0050 0050 0050 0050 0050 0050 0050 0050";
        sound("forty", 0, "0041;Lu;0;<a>0042 0042 0042 0042;;;", "0042;Lu;0;" + ten + ";;;");
        unsound("forty-one", "0041;Lu;0;<a>0042 0042 0042 0042 0043;;;", "0042;Lu;0;" + ten + ";;;");
        String syllables = " AC01".repeat(13);
        sound("forty with syllables", 0, "0041;Lu;0;<a>" + syllables + " 0050;;;");
        unsound("forty-one with syllables", "0041;Lu;0;<a>" + syllables + " AC00;;;");
        unsound("far more", "0041;Lu;0;0042 0042;;;", "0042;Lu;0;0043 0043;;;", "0043;Lu;0;0044 0044;;;",
            "0044;Lu;0;0045 0045;;;", "0045;Lu;0;0046 0046;;;", "0046;Lu;0;0047 0047;;;");
        String[] doubled = {"0041;Lu;0;0042 0042;;;", "0042;Lu;0;0043 0043;;;", "0043;Lu;0;0044 0044;;;", "0044;Lu;0;0045 0045;;;",
            "0045;Lu;0;0046 0046;;;"};
        sound("forty, canonical", 6, with(doubled, "0050;Lu;0;0041 0043;;;"));
        unsound("forty-one, canonical", with(doubled, "0050;Lu;0;0041 0051;;;", "0051;Lu;0;0043 0052;;;"));
        unsound("forty-one by way of forty", with(doubled, "0050;Lu;0;0041 0043;;;", "0051;Lu;0;0050 0052;;;"));
        sound("forty by way of forty", 6, with(doubled, "0050;Lu;0;0041 0043;;;", "0051;Lu;0;0050;;;"));
        String twelve = "0042;Lu;0;" + ten + " 0050 0050;;;";
        sound("forty, compatible alone", 1, "0041;Lu;0;0042 0043;;;", twelve, "0043;Lu;0;<a>0042 0042 0050 0050 0050 0050;;;");
        unsound("forty-one, compatible alone", "0041;Lu;0;0042 0043;;;", twelve, "0043;Lu;0;<a>0042 0042 0050 0050 0050 0050 0050;;;");
        sound("thirty-two", 5, "0041;Lu;0;0042 0042;;;", "0042;Lu;0;0043 0043;;;", "0043;Lu;0;0044 0044;;;",
            "0044;Lu;0;0045 0045;;;", "0045;Lu;0;0046 0046;;;");
    }

    private static String[] with(String[] facts, String... more) {
        String[] all = java.util.Arrays.copyOf(facts, facts.length + more.length);
        System.arraycopy(more, 0, all, facts.length, more.length);
        return all;
    }

    private static void pairs() {
        unsound("the same two", "0041;Lu;0;0043 0044;;;", "0042;Lu;0;0043 0044;;;");
        sound("not the same two", 2, "0041;Lu;0;0043 0044;;;", "0042;Lu;0;0044 0043;;;");
        sound("one of class above 0", 1, "0041;Lu;0;0043 0044;;;", "0042;Lu;1;0043 0044;;;");
        sound("the first of class above 0", 0, "0041;Lu;0;0043 0044;;;", "0042;Lu;0;0043 0044;;;", "0043;Mn;1;;;;");
        sound("both of class above 0", 0, "0041;Lu;1;0043 0044;;;", "0042;Lu;254;0043 0044;;;");
        sound("no pair: one point", 0, "0041;Lu;0;0043;;;", "0042;Lu;0;0043;;;");
        sound("the same first", 2, "0041;Lu;0;0043 0044;;;", "0042;Lu;0;0043 0045;;;");
        sound("the same second", 2, "0041;Lu;0;0044 0043;;;", "0042;Lu;0;0045 0043;;;");
        sound("the first and the last points", 4, "0041;Lu;0;0000 0000;;;", "0042;Lu;0;0000 10FFFF;;;", "0043;Lu;0;10FFFF 0000;;;",
            "0044;Lu;0;10FFFF 10FFFF;;;");
        unsound("the same two of the last points", "0041;Lu;0;10FFFF 10FFFF;;;", "0042;Lu;0;10FFFF 10FFFF;;;");
        sound("the second of class above 0", 1, "0041;Lu;0;0043 0044;;;", "0044;Mn;1;;;;");
        sound("compatible ones are none", 1, "0041;Lu;0;0043 0044;;;", "0042;Lu;0;<a>0043 0044;;;");
        Bench b = new Bench().lines(0, "0041;Lu;0;0043 0044;;;", "0042;Lu;0;0043 0044;;;");
        b.lines(3, "0041;Composition_Exclusion");
        Bench.due("excluded", b.atlas.seal(), 1);
        Bench two = new Bench().lines(0, "0041;Lu;0;0043 0044 0045;;;").lines(3, "0041;Composition_Exclusion");
        Bench.arithmetic("excluded ones have one or two points, too", () -> two.atlas.seal());
    }

    private static void hangul() {
        unsound("syllable, canonical", "AC00;Lo;0;0041;;;");
        unsound("syllable, compatible", "D7A3;Lo;0;<a>0041;;;");
        sound("neighbours of syllables", 0, "ABFF;Lo;0;0041;;;", "D7A4;Lo;0;<a>0041;;;");
        sound("syllable told no more", 0, "AC00;Lo;0;0041;;;", "AC00..D7A3;Lo;0;;;;");
        unsound("L and V", "0041;Lo;0;1112 1175;;;");
        unsound("LV and T", "0041;Lo;0;AC00 11A8;;;");
        unsound("LV and the last T", "0041;Lo;0;AC1C 11C2;;;");
        sound("LVT and T", 1, "0041;Lo;0;AC01 11A8;;;");
        sound("LV and no T", 1, "0041;Lo;0;AC00 11A7;;;");
        sound("L and no V", 1, "0041;Lo;0;1100 1176;;;");
        sound("no L", 1, "0041;Lo;0;1113 1161;;;");
        sound("L and V, excluded by class", 0, "0041;Lo;7;1100 1161;;;");
        sound("in itself as a part of a syllable", 0, "1100;Lo;0;AC00;;;");
        Bench b = new Bench().lines(0, "1100;Lo;0;0041;;;", "0041;Lo;0;AC01;;;").sealed();
        b.put(0, "1100 AC01").atlas.normal(0, 0, 0);
        Bench.due("parts of a syllable stay", b.show(0), "1100 1161 11A8 1100 1161 11A8");
    }

    /** A chain deeper than recursion may go. */
    private static void longChain() {
        Bench b = new Bench();
        for (int i = 0; i < 250; i++) {
            String line = String.format("%04X;Lu;0;%04X;;;", 0x1000 + i, 0x1001 + i);
            Bench.dueOf(line, () -> b.shortLine(0, line), 1);
        }
        Bench.due("no pairs", b.atlas.seal(), 0);
        b.put(0, "1000").atlas.normal(0, 0, 0);
        Bench.due("end of the chain", b.show(0), "10FA");
    }
}
