/** Promises 17 (edge) and 18 (next). */
final class BreaksTest {
    private static final String GCB =
        "Other CR LF Control Extend ZWJ Regional_Indicator Prepend SpacingMark L V T LV LVT";
    private static final String WB = "Other CR LF Newline Extend ZWJ Regional_Indicator Format Katakana Hebrew_Letter "
        + "ALetter MidLetter MidNum MidNumLet Single_Quote Double_Quote Numeric ExtendNumLet WSegSpace";

    public static void main(String[] args) {
        throwing();
        graphemes();
        words();
        nextOnes();
        graphemePairs();
        wordPairs();
        regionalRuns();
        ends();
        untold();
        Bench.finish();
    }

    /** Point 1000 + k has the k-th value; 1100 is pictographic, 1101 too and Extend. */
    private static Bench told(String prefix, String names) {
        Bench b = new Bench();
        String[] all = names.split(" ");
        for (int k = 0; k < all.length; k++) {
            b.lines(3, String.format("%04X;%s=%s", 0x1000 + k, prefix, all[k]));
        }
        return b.lines(3, "1100..1101;Extended_Pictographic", "1101;" + prefix + "=Extend").sealed();
    }

    /** The points by name; a bar stands where a boundary is due. */
    private static void broken(Bench b, int kind, String names, String text) {
        String[] all = names.split(" ");
        StringBuilder points = new StringBuilder();
        StringBuilder want = new StringBuilder();
        int at = 0;
        for (String token : text.split(" ")) {
            if (token.equals("|")) {
                want.append(at).append(' ');
                continue;
            }
            int point = token.equals("Pic") ? 0x1100 : token.equals("PicExtend") ? 0x1101 : 0;
            for (int k = 0; k < all.length && point == 0; k++) {
                point = all[k].equals(token) ? 0x1000 + k : 0;
            }
            Bench.due(token + " is known", point != 0, true);
            points.append(Integer.toHexString(point)).append(' ');
            at++;
        }
        b.put(0, points.toString());
        StringBuilder got = new StringBuilder();
        for (int i = 0; i <= at; i++) {
            got.append(b.atlas.edge(0, kind, i) ? i + " " : "");
        }
        Bench.due("boundaries of " + text, got, want);
    }

    private static void graphemes(String... texts) {
        Bench b = told("GCB", GCB);
        for (String text : texts) {
            broken(b, 0, GCB, text);
        }
    }

    private static void words(String... texts) {
        Bench b = told("WB", WB);
        for (String text : texts) {
            broken(b, 1, WB, text);
        }
    }

    private static void throwing() {
        Bench b = new Bench().put(0, "41 42");
        TextAtlas x = b.atlas;
        Bench.state("edge", () -> x.edge(0, 0, 0));
        Bench.state("next", () -> x.next(0, 0, 0, true));
        for (int i = 0; i < 2; i++) {
            for (int bad : new int[] {-1, 8}) {
                Bench.argument("edge t", () -> x.edge(bad, 0, 0));
                Bench.argument("next t", () -> x.next(bad, 0, 0, false));
            }
            for (int bad : new int[] {-1, 2}) {
                Bench.argument("edge kind", () -> x.edge(0, bad, 0));
                Bench.argument("next kind", () -> x.next(0, bad, 0, false));
            }
            for (int bad : new int[] {-1, 3}) {
                Bench.argument("edge i", () -> x.edge(0, 0, bad));
                Bench.argument("next i", () -> x.next(0, 0, bad, true));
            }
            if (i == 0) {
                b.sealed();
            }
        }
        Bench.due("empty", x.edge(1, 0, 0), false);
        Bench.due("empty, words", x.edge(1, 1, 0), false);
        Bench.due("next in empty", x.next(1, 0, 0, false), -1);
        Bench.due("next back in empty", x.next(1, 1, 0, true), -1);
    }

    private static void graphemes() {
        graphemes("| Other |", "| Other | Other |", "| CR LF |", "| LF | CR |", "| CR | CR LF | LF |", "| Control | Extend |",
            "| Other | Control | Other |", "| CR | Extend |", "| Prepend | CR |", "| Prepend | Control |");
        graphemes("| L L |", "| L V |", "| L LV |", "| L LVT |", "| L | T |", "| LV V |", "| LV T |", "| LV | L |", "| LV | LV |",
            "| V V |", "| V T |", "| V | L |", "| V | LVT |", "| LVT T |", "| LVT | V |", "| T T |", "| T | V |", "| T | L |",
            "| L L V V T T |");
        graphemes("| Other Extend ZWJ SpacingMark |", "| Extend Extend |", "| Prepend Other |", "| Prepend Prepend L V |",
            "| ZWJ | Other |", "| SpacingMark | Other |");
        graphemes("| Pic ZWJ Pic |", "| Pic Extend Extend ZWJ Pic |", "| Other ZWJ | Pic |", "| ZWJ | Pic |", "| Pic Extend | Pic |",
            "| Pic ZWJ Extend | Pic |", "| Pic ZWJ | Other |", "| Pic ZWJ Pic ZWJ Pic |", "| Pic ZWJ ZWJ | Pic |",
            "| Pic SpacingMark ZWJ | Pic |", "| Other PicExtend ZWJ Pic |", "| Other PicExtend Extend ZWJ Pic |");
        graphemes("| Regional_Indicator Regional_Indicator |", "| Regional_Indicator | Other |",
            "| Regional_Indicator Regional_Indicator | Regional_Indicator |",
            "| Regional_Indicator Regional_Indicator | Regional_Indicator Regional_Indicator |",
            "| Other | Regional_Indicator Regional_Indicator | Regional_Indicator Regional_Indicator | Regional_Indicator |",
            "| Regional_Indicator Extend | Regional_Indicator Regional_Indicator |");
    }

    private static void words() {
        words("| Other | Other |", "| CR LF |", "| LF | CR |", "| Newline | Newline |", "| Other | CR | Extend Extend | LF |",
            "| ALetter | Newline | ALetter |", "| LF | Extend |", "| Newline | Extend | ALetter |", "| CR | ZWJ Pic |",
            "| LF | Format Extend | ALetter |", "| Extend | LF |", "| ZWJ | Newline |", "| CR | Pic |", "| ZWJ Pic |", "| Other ZWJ Pic |", "| ZWJ Extend | Pic |", "| Pic | Pic |",
            "| WSegSpace WSegSpace |", "| WSegSpace Extend | WSegSpace |", "| Other Extend Format ZWJ |", "| Extend Format | Other |");
        words("| ALetter ALetter Hebrew_Letter |", "| ALetter Extend ZWJ ALetter |", "| Extend | ALetter |", "| CR | Format | ALetter |",
            "| ALetter MidLetter ALetter |", "| ALetter MidNumLet Hebrew_Letter |", "| ALetter Single_Quote ALetter |",
            "| ALetter Extend MidLetter Format ALetter |", "| ALetter | MidLetter | MidLetter | ALetter |", "| ALetter | MidLetter |",
            "| MidLetter | ALetter |", "| ALetter | MidNum | ALetter |", "| ALetter | MidLetter | Numeric |", "| Numeric | MidLetter | Numeric |");
        words("| Hebrew_Letter Single_Quote |", "| ALetter | Single_Quote |", "| Hebrew_Letter Single_Quote | Other |",
            "| Hebrew_Letter Double_Quote Hebrew_Letter |", "| Hebrew_Letter | Double_Quote | ALetter |", "| ALetter | Double_Quote | Hebrew_Letter |",
            "| Hebrew_Letter | Double_Quote |", "| Hebrew_Letter Extend Double_Quote Extend Hebrew_Letter |");
        words("| Numeric Numeric |", "| ALetter Numeric |", "| Numeric Hebrew_Letter |", "| Numeric MidNum Numeric |", "| Numeric MidNumLet Numeric |",
            "| Numeric Single_Quote Extend Numeric |", "| Numeric | MidNum |", "| Numeric | Double_Quote | Numeric |", "| Numeric | MidNumLet | ALetter |");
        words("| Katakana Katakana |", "| Katakana | ALetter |", "| ALetter ExtendNumLet |", "| Numeric ExtendNumLet Katakana |",
            "| ExtendNumLet ExtendNumLet Hebrew_Letter |", "| Other | ExtendNumLet | Other |", "| Katakana Extend ExtendNumLet ZWJ Numeric |");
        words("| Regional_Indicator Regional_Indicator | Regional_Indicator |",
            "| Regional_Indicator Extend ZWJ Regional_Indicator Format | Regional_Indicator Regional_Indicator |",
            "| ALetter | Regional_Indicator Regional_Indicator | ALetter |",
            "| Regional_Indicator | Other | Regional_Indicator Regional_Indicator |");
    }

    private static void nextOnes() {
        Bench b = told("WB", WB);
        b.put(0, "100A 100A 1000 100A 100B 100A");
        int[] behind = {2, 2, 3, 6, 6, 6, -1};
        int[] before = {-1, 0, 0, 2, 3, 3, 3};
        for (int i = 0; i <= 6; i++) {
            Bench.due("next " + i, b.atlas.next(0, 1, i, false), behind[i]);
            Bench.due("next back " + i, b.atlas.next(0, 1, i, true), before[i]);
        }
        Bench g = told("GCB", GCB);
        g.put(0, "1000 1004 1001 1002");
        Bench.due("grapheme", g.atlas.next(0, 0, 0, false), 2);
        Bench.due("CR LF", g.atlas.next(0, 0, 2, false), 4);
        Bench.due("back", g.atlas.next(0, 0, 4, true), 2);
        Bench.due("back from within", g.atlas.next(0, 0, 3, true), 2);
    }

    private static boolean among(String names, String name) {
        return (" " + names + " ").contains(" " + name + " ");
    }

    private static boolean pairIs(String pairs, String a, String b) {
        for (String pair : pairs.split(" ; ")) {
            String[] sides = pair.split(" x ");
            if (among(sides[0], a) && among(sides[1], b)) {
                return true;
            }
        }
        return false;
    }

    /** Each value beside each. */
    private static void graphemePairs() {
        String joined = "CR x LF ; L x L V LV LVT ; LV V x V T ; LVT T x T ; Regional_Indicator x Regional_Indicator";
        String control = "CR LF Control";
        pairs("GCB", GCB, 0, (a, b) -> {
            boolean free = !among(control, a) && !among(control, b);
            return !(pairIs(joined, a, b) || free && (among("Extend ZWJ SpacingMark", b) || a.equals("Prepend")));
        });
    }

    private static void wordPairs() {
        String letters = "ALetter Hebrew_Letter Numeric";
        String joined = "CR x LF ; WSegSpace x WSegSpace ; " + letters + " x " + letters + " ; Hebrew_Letter x Single_Quote ; Katakana x Katakana ; "
            + letters + " Katakana ExtendNumLet x ExtendNumLet ; ExtendNumLet x " + letters + " Katakana ; Regional_Indicator x Regional_Indicator";
        String lineEnd = "CR LF Newline";
        pairs("WB", WB, 1, (a, b) -> {
            boolean free = !among(lineEnd, a) && !among(lineEnd, b);
            return !(pairIs(joined, a, b) || free && among("Extend Format ZWJ", b));
        });
    }

    private static void pairs(String prefix, String names, int kind, java.util.function.BiPredicate<String, String> boundary) {
        String[] all = names.split(" ");
        for (String a : all) {
            Bench b = told(prefix, names);
            for (String c : all) {
                broken(b, kind, names, boundary.test(a, c) ? "| " + a + " | " + c + " |" : "| " + a + " " + c + " |");
            }
        }
    }

    /** An odd number before a place, or an even one, from 1 to 9. */
    private static void regionalRuns() {
        for (int kind = 0; kind < 2; kind++) {
            Bench b = new Bench().lines(3, "0041;GCB=Regional_Indicator", "0041;WB=Regional_Indicator").sealed();
            for (String before : new String[] {"", "42 "}) {
                b.put(0, before + "41 ".repeat(9));
                int start = b.atlas.size(0) - 9;
                for (int i = 1; i < 9; i++) {
                    Bench.due(i + " before, behind '" + before + "'", b.atlas.edge(0, kind, start + i), i % 2 == 0);
                }
                Bench.due("at both ends", b.atlas.edge(0, kind, 0) && b.atlas.edge(0, kind, start + 9), true);
            }
        }
    }

    /** At both ends there is a boundary, whatever stands there. */
    private static void ends() {
        for (int kind = 0; kind < 2; kind++) {
            String names = kind == 0 ? GCB : WB;
            Bench b = told(kind == 0 ? "GCB" : "WB", names);
            for (int k = 0; k < names.split(" ").length; k++) {
                b.put(0, Integer.toHexString(0x1000 + k));
                Bench.due("before " + k, b.atlas.edge(0, kind, 0), true);
                Bench.due("behind " + k, b.atlas.edge(0, kind, 1), true);
                Bench.due("next of " + k, b.atlas.next(0, kind, 0, false), 1);
                Bench.due("next back of " + k, b.atlas.next(0, kind, 1, true), 0);
                Bench.due("none behind " + k, b.atlas.next(0, kind, 1, false), -1);
                Bench.due("none before " + k, b.atlas.next(0, kind, 0, true), -1);
            }
        }
    }

    private static void untold() {
        Bench b = new Bench().lines(3, "0041..0043;GCB=Extend", "0042;GCB=Control", "0042;WB=Extend").sealed();
        b.put(0, "AC00 11A8 0041 0042 0043");
        Bench.due("syllables are what lines tell", b.atlas.edge(0, 0, 1), true);
        Bench.due("told of a range", b.atlas.edge(0, 0, 2), false);
        Bench.due("told later", b.atlas.edge(0, 0, 3), true);
        Bench.due("within the range still", b.atlas.edge(0, 1, 3), false);
    }
}
