import java.util.StringJoiner;

/** AC00 .. D7A3: every syllable, the first and last of each part, and what LINES may not change. */
final class HangulTest {
    private static final int FIRST = 0xAC00;
    private static final int LAST = 0xD7A3;
    private static final int AT_ONCE = 48;

    public static void main(String[] args) {
        allSyllables();
        composing();
        unsoundPairs();
        excludedPairs();
        toldDecompositions();
        partsStay();
        lengths();
        Bench.finish();
    }

    private static String parts(int point) {
        int s = point - FIRST;
        String two = String.format("%04X %04X", 0x1100 + s / 588, 0x1161 + s % 588 / 28);
        return s % 28 == 0 ? two : two + String.format(" %04X", 0x11A7 + s % 28);
    }

    private static void allSyllables() {
        for (int from = FIRST; from <= LAST; from += AT_ONCE) {
            StringBuilder text = new StringBuilder();
            StringJoiner whole = new StringJoiner(" ");
            StringJoiner split = new StringJoiner(" ");
            for (int point = from; point < from + AT_ONCE && point <= LAST; point++) {
                text.append((char) point);
                whole.add(String.format("%04X", point));
                split.add(parts(point));
            }
            Bench b = new Bench().sealed().write(0, text.toString());
            b.atlas.normal(1, 0, from % 2);
            Bench.due("decomposed", b.show(1), split);
            b.atlas.normal(1, 1, 2 + from % 2);
            Bench.due("composed", b.show(1), whole);
        }
    }

    private static void form(Bench b, int form, String points, String want) {
        b.put(1, points).atlas.normal(0, 1, form);
        Bench.due("form " + form + " of " + points, b.show(0), want);
    }

    /** The first and last of 1100 .. 1112, 1161 .. 1175 and 11A8 .. 11C2, and their neighbours, which compose no more. */
    private static void composing() {
        Bench b = new Bench().sealed();
        form(b, 2, "1100 1161", "AC00");
        form(b, 2, "1100 1175", "AE30");
        form(b, 2, "1112 1161", "D558");
        form(b, 2, "1112 1175", "D788");
        form(b, 2, "AC00 11A8", "AC01");
        form(b, 2, "AC00 11C2", "AC1B");
        form(b, 2, "D788 11A8", "D789");
        form(b, 2, "D788 11C2", "D7A3");
        form(b, 3, "1112 1175 11C2", "D7A3");
        String[] stay = {"10FF 1161", "1113 1161", "1100 1160", "1100 1176", "AC00 11A7", "AC00 11C3", "AC01 11A8", "AC1B 11A8", "D7A3 11A8",
            "D7A4 11A8", "ABE4 11A8", "ABFF 11A8", "1161 11A8", "1100 11A8", "1161 1100", "AC00 1161", "D7C0 11A8"};
        for (String points : stay) {
            form(b, 2, points, points);
        }
        form(b, 2, "AC1C 11A8", "AC1D");
        form(b, 2, "1100 1161 11A8 11A8", "AC01 11A8");
        form(b, 2, "1100 1161 1161", "AC00 1161");
    }

    private static int seal(String... facts) {
        return new Bench().lines(0, facts).atlas.seal();
    }

    /** "neither are PAIRS of Hangul" */
    private static void unsoundPairs() {
        String[] pairs = {"1100 1161", "1100 1175", "1112 1161", "1112 1175", "AC00 11A8", "AC00 11C2", "D788 11A8", "D788 11C2", "AC1C 11B0"};
        for (String pair : pairs) {
            Bench.arithmetic("decomposition " + pair, () -> seal("0041;Lo;0;" + pair + ";;;"));
            Bench.dueOf("compatible " + pair, () -> seal("0041;Lo;0;<x>" + pair + ";;;"), 0);
        }
        String[] others = {"10FF 1161", "1113 1161", "1100 1160", "1100 1176", "AC00 11A7", "AC00 11C3", "AC01 11A8", "AC1B 11A8", "ABE4 11A8",
            "D7A4 11A8", "1161 11A8", "1161 1100"};
        for (String pair : others) {
            Bench b = new Bench().lines(0, "0041;Lo;0;" + pair + ";;;");
            Bench.dueOf("decomposition " + pair, () -> b.atlas.seal(), 1);
            form(b, 2, pair, "0041");
        }
    }

    /** "EXCLUDED ones aside" */
    private static void excludedPairs() {
        Bench told = new Bench().lines(0, "0041;Lo;0;1100 1161;;;").lines(3, "0041;Composition_Exclusion");
        Bench.dueOf("Composition_Exclusion", () -> told.atlas.seal(), 0);
        form(told, 0, "0041", "1100 1161");
        form(told, 2, "0041", "AC00");
        Bench.dueOf("of class above 0", () -> seal("0041;Mn;1;1100 1161;;;"), 0);
        Bench.dueOf("the first of class above 0", () -> seal("0041;Lo;0;1100 1161;;;", "1100;Lo;1;;;;"), 0);
        Bench.arithmetic("the second of class above 0", () -> seal("0041;Lo;0;1100 1161;;;", "1161;Lo;1;;;;"));
        Bench other = new Bench().lines(0, "0041;Lo;0;1100 1161;;;").lines(3, "1100..1161;Composition_Exclusion", "AC00;Composition_Exclusion");
        Bench.arithmetic("the exclusion of others", () -> other.atlas.seal());
    }

    /** "AC00 .. D7A3 have no decomposition told, of either kind" */
    private static void toldDecompositions() {
        for (String point : new String[] {"AC00", "AC01", "C000", "D7A2", "D7A3"}) {
            for (String row : new String[] {"0041", "0041 0042", "1100 1161", "<x>0041", "<x>0041 0042 0043"}) {
                Bench.arithmetic(point + " is " + row, () -> seal(point + ";Lo;0;" + row + ";;;"));
            }
            Bench.dueOf(point + " without", () -> seal(point + ";Lo;0;;0041;0042;0043"), 0);
        }
        Bench.dueOf("the one before", () -> seal("ABFF;Lo;0;0041 0042;;;"), 1);
        Bench.dueOf("the one behind", () -> seal("D7A4;Lo;0;0041 0042;;;"), 1);
        Bench.dueOf("a later line without", () -> seal("AC00;Lo;0;0041;;;", "AC00;Lo;0;;;;"), 0);
        Bench.arithmetic("a later line with", () -> seal("AC00;Lo;0;;;;", "AC00;Lo;0;0041;;;"));
    }

    /** "these stay as they are, whatever LINES say of them"; a POINT may be in itself "as a part of a syllable". */
    private static void partsStay() {
        Bench b = new Bench().lines(0, "1100;Lo;0;0041;;;", "1161;Lo;0;<x>0042 0043;;;", "11A8;Lo;0;0044;;;").sealed();
        form(b, 0, "AC01 1100 1161 11A8", "1100 1161 11A8 0041 1161 0044");
        form(b, 1, "AC01 1100 1161 11A8", "1100 1161 11A8 0041 0042 0043 0044");
        form(b, 2, "AC01 1100 1161 11A8", "AC01 0041 1161 0044");
        Bench self = new Bench().lines(0, "1100;Lo;0;AC00;;;", "1161;Lo;0;0041;;;", "0041;Lo;0;AC00;;;", "11A8;Lo;0;<x>AC01;;;");
        Bench.dueOf("parts of syllables in themselves", () -> self.atlas.seal(), 0);
        form(self, 0, "1100 0041", "1100 1161 1100 1161");
        form(self, 1, "11A8", "1100 1161 11A8");
        Bench.arithmetic("in itself, not as a part", () -> seal("1100;Lo;0;AC00 1100;;;"));
        Bench.arithmetic("in itself by way of another", () -> seal("1100;Lo;0;0041;;;", "0041;Lo;0;<x>AC00 1100;;;"));
    }

    private static void lengths() {
        Bench b = new Bench().sealed();
        int[][] due = {{0xABFF, 1}, {0xAC00, 2}, {0xAC01, 3}, {0xAC1B, 3}, {0xAC1C, 2}, {0xD788, 2}, {0xD7A3, 3}, {0xD7A4, 1}, {0x1100, 1}};
        for (int[] row : due) {
            Bench.due("canonical length of " + Integer.toHexString(row[0]), b.atlas.about(row[0], 4), row[1]);
            Bench.due("compatible length of " + Integer.toHexString(row[0]), b.atlas.about(row[0], 5), row[1]);
            Bench.due("role of " + Integer.toHexString(row[0]), b.atlas.about(row[0], 7), 0);
        }
        for (int point : new int[] {0x1161, 0x1175, 0x11A8, 0x11C2}) {
            Bench.due("the second of a PAIR of Hangul", b.atlas.about(point, 7), 0);
        }
    }
}
