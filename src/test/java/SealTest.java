/** Promise 5 (seal), and what is SOUND. */
final class SealTest {
    public static void main(String[] args) {
        states();
        shapes();
        circles();
        lengths();
        pairs();
        hangul();
        longChain();
        Bench.finish();
    }

    private static void unsound(String what, String... facts) {
        Bench b = new Bench().lines(0, facts);
        Bench.arithmetic(what, () -> b.atlas.seal());
        Bench.due(what + ": not sealed", b.atlas.count(3), 0);
        Bench.due(what + ": lines stay", b.atlas.count(2), facts.length);
    }

    private static void sound(String what, int pairs, String... facts) {
        Bench b = new Bench().lines(0, facts);
        Bench.dueOf(what, () -> b.atlas.seal(), pairs);
        Bench.due(what + ": sealed", b.atlas.count(3), 1);
    }

    private static void states() {
        Bench b = new Bench().lines(0, "0041;Lu;0;0041;;;");
        Bench.arithmetic("not sound", () -> b.atlas.seal());
        b.lines(0, "0041;Lu;0;0042 0043;;;");
        Bench.due("mended by a line more", b.atlas.seal(), 1);
        Bench.state("sealed already", () -> b.atlas.seal());
        b.atlas.reset();
        Bench.due("after reset", b.atlas.seal(), 0);
    }

    private static void shapes() {
        unsound("three points", "0041;Lu;0;0042 0043 0044;;;");
        sound("three points, compatible", 0, "0041;Lu;0;<a>0042 0043 0044;;;");
        sound("one point", 0, "0041;Lu;0;0042;;;");
        sound("of the first point", 1, "0000;Lu;0;0042 0043;;;");
        unsound("three points, of the first point", "0000;Lu;0;0042 0043 0044;;;");
        unsound("of the last point", "10FFFF;Lu;0;0042 10FFFF;;;");
        sound("replaced", 0, "0041;Lu;0;0042 0043 0044;;;", "0040..0042;Lu;0;;;;");
    }

    private static void circles() {
        unsound("itself", "0041;Lu;0;0041;;;");
        unsound("itself, compatible", "0041;Lu;0;<a>0042 0041;;;");
        unsound("two", "0041;Lu;0;0042;;;", "0042;Lu;0;0041;;;");
        unsound("of both kinds", "0041;Lu;0;0042;;;", "0042;Lu;0;<a>0041;;;");
        unsound("behind a good one", "0041;Lu;0;0042 0043;;;", "0043;Lu;0;<a>0044;;;", "0044;Lu;0;0043;;;");
        sound("the same twice is no circle", 1, "0041;Lu;0;0042 0042;;;", "0042;Lu;0;0043;;;");
    }

    private static void lengths() {
        String ten = "<a>0050 0050 0050 0050 0050 0050 0050 0050 0050 0050";
        sound("forty", 0, "0041;Lu;0;<a>0042 0042 0042 0042;;;", "0042;Lu;0;" + ten + ";;;");
        unsound("forty-one", "0041;Lu;0;<a>0042 0042 0042 0042 0043;;;", "0042;Lu;0;" + ten + ";;;");
        String syllables = " AC01".repeat(13);
        sound("forty with syllables", 0, "0041;Lu;0;<a>" + syllables + " 0050;;;");
        unsound("forty-one with syllables", "0041;Lu;0;<a>" + syllables + " AC00;;;");
        unsound("far more", "0041;Lu;0;0042 0042;;;", "0042;Lu;0;0043 0043;;;", "0043;Lu;0;0044 0044;;;",
            "0044;Lu;0;0045 0045;;;", "0045;Lu;0;0046 0046;;;", "0046;Lu;0;0047 0047;;;");
        sound("thirty-two", 5, "0041;Lu;0;0042 0042;;;", "0042;Lu;0;0043 0043;;;", "0043;Lu;0;0044 0044;;;",
            "0044;Lu;0;0045 0045;;;", "0045;Lu;0;0046 0046;;;");
    }

    private static void pairs() {
        unsound("the same two", "0041;Lu;0;0043 0044;;;", "0042;Lu;0;0043 0044;;;");
        sound("not the same two", 2, "0041;Lu;0;0043 0044;;;", "0042;Lu;0;0044 0043;;;");
        sound("one of class above 0", 1, "0041;Lu;0;0043 0044;;;", "0042;Lu;1;0043 0044;;;");
        sound("the first of class above 0", 0, "0041;Lu;0;0043 0044;;;", "0042;Lu;0;0043 0044;;;", "0043;Mn;1;;;;");
        sound("the second of class above 0", 1, "0041;Lu;0;0043 0044;;;", "0044;Mn;1;;;;");
        sound("compatible ones are none", 1, "0041;Lu;0;0043 0044;;;", "0042;Lu;0;<a>0043 0044;;;");
        Bench b = new Bench().lines(0, "0041;Lu;0;0043 0044;;;", "0042;Lu;0;0043 0044;;;");
        b.lines(3, "0041;Composition_Exclusion");
        Bench.due("excluded", b.atlas.seal(), 1);
        Bench two = new Bench().lines(0, "0041;Lu;0;0043 0044 0045;;;").lines(3, "0041;Composition_Exclusion");
        Bench.arithmetic("excluded ones have one or two points, too", () -> two.atlas.seal());
    }

    private static void hangul() {
        unsound("syllable, canonical", "AC00;Lo;0;0041;;;");
        unsound("syllable, compatible", "D7A3;Lo;0;<a>0041;;;");
        sound("neighbours of syllables", 0, "ABFF;Lo;0;0041;;;", "D7A4;Lo;0;<a>0041;;;");
        sound("syllable told no more", 0, "AC00;Lo;0;0041;;;", "AC00..D7A3;Lo;0;;;;");
        unsound("L and V", "0041;Lo;0;1112 1175;;;");
        unsound("LV and T", "0041;Lo;0;AC00 11A8;;;");
        unsound("LV and the last T", "0041;Lo;0;AC1C 11C2;;;");
        sound("LVT and T", 1, "0041;Lo;0;AC01 11A8;;;");
        sound("LV and no T", 1, "0041;Lo;0;AC00 11A7;;;");
        sound("L and no V", 1, "0041;Lo;0;1100 1176;;;");
        sound("no L", 1, "0041;Lo;0;1113 1161;;;");
        sound("L and V, excluded by class", 0, "0041;Lo;7;1100 1161;;;");
        sound("in itself as a part of a syllable", 0, "1100;Lo;0;AC00;;;");
        Bench b = new Bench().lines(0, "1100;Lo;0;0041;;;", "0041;Lo;0;AC01;;;").sealed();
        b.put(0, "1100 AC01").atlas.normal(0, 0, 0);
        Bench.due("parts of a syllable stay", b.show(0), "1100 1161 11A8 1100 1161 11A8");
    }

    /** A chain deeper than recursion may go. */
    private static void longChain() {
        Bench b = new Bench();
        for (int i = 0; i < 250; i++) {
            String line = String.format("%04X;Lu;0;%04X;;;", 0x1000 + i, 0x1001 + i);
            Bench.dueOf(line, () -> b.shortLine(0, line), 1);
        }
        Bench.due("no pairs", b.atlas.seal(), 0);
        b.put(0, "1000").atlas.normal(0, 0, 0);
        Bench.due("end of the chain", b.show(0), "10FA");
    }
}
