/** Promise 21 (about). */
final class AboutTest {
    public static void main(String[] args) {
        throwing();
        facts();
        breaks();
        numbers();
        categories();
        cutRanges();
        lengths();
        properties();
        roles();
        Bench.finish();
    }

    private static void about(Bench b, int point, int what, int want) {
        Bench.dueOf("about " + Integer.toHexString(point) + " " + what, () -> b.atlas.about(point, what), want);
    }

    private static void throwing() {
        Bench b = new Bench();
        Bench.state("not sealed", () -> b.atlas.about(0, 0));
        for (int i = 0; i < 2; i++) {
            Bench.argument("point 110000", () -> b.atlas.about(0x110000, 0));
            Bench.argument("point -1", () -> b.atlas.about(-1, 0));
            Bench.argument("what 8", () -> b.atlas.about(0, 8));
            Bench.argument("what -1", () -> b.atlas.about(0, -1));
            if (i == 0) {
                b.sealed();
            }
        }
    }

    private static void facts() {
        Bench b = new Bench().lines(0, "0041..0050;Lu;0;;;;", "0045;Mn;230;;;;", "0044..0046;Ll;7;;;;", "10FFFF;Zs;254;;;;").sealed();
        about(b, 0x40, 0, 'C' * 256 + 'n');
        about(b, 0x41, 0, 'L' * 256 + 'u');
        about(b, 0x43, 1, 0);
        about(b, 0x44, 0, 'L' * 256 + 'l');
        about(b, 0x45, 0, 'L' * 256 + 'l');
        about(b, 0x45, 1, 7);
        about(b, 0x46, 1, 7);
        about(b, 0x47, 1, 0);
        about(b, 0x50, 0, 'L' * 256 + 'u');
        about(b, 0x51, 0, 'C' * 256 + 'n');
        about(b, 0x10FFFF, 0, 'Z' * 256 + 's');
        about(b, 0x10FFFF, 1, 254);
        about(b, 0x10FFFE, 1, 0);
    }

    private static void breaks() {
        Bench b = new Bench().lines(3, "0041..0044;GCB=LVT", "0042;GCB=CR", "0041..0043;WB=WSegSpace", "0043;WB=Other", "0000..10FFFF;Cased");
        b.sealed();
        about(b, 0x41, 2, 13);
        about(b, 0x42, 2, 1);
        about(b, 0x43, 2, 13);
        about(b, 0x45, 2, 0);
        about(b, 0x41, 3, 18);
        about(b, 0x43, 3, 0);
        about(b, 0x42, 3, 18);
        about(b, 0x44, 3, 0);
        about(b, 0x45, 6, 4);
        about(b, 0, 6, 4);
        about(b, 0x10FFFF, 6, 4);
    }

    /** "as numbers from 0 in the order told" */
    private static void numbers() {
        String[] graphemes = "Other CR LF Control Extend ZWJ Regional_Indicator Prepend SpacingMark L V T LV LVT".split(" ");
        String[] words = ("Other CR LF Newline Extend ZWJ Regional_Indicator Format Katakana Hebrew_Letter ALetter MidLetter MidNum MidNumLet "
            + "Single_Quote Double_Quote Numeric ExtendNumLet WSegSpace").split(" ");
        Bench b = new Bench();
        for (int k = 0; k < words.length; k++) {
            b.lines(3, String.format("%04X;WB=%s", 0x41 + k, words[k]));
        }
        for (int k = 0; k < graphemes.length; k++) {
            b.lines(3, String.format("%04X;GCB=%s", 0x41 + k, graphemes[k]));
        }
        b.sealed();
        for (int k = 0; k < words.length; k++) {
            about(b, 0x41 + k, 2, k < graphemes.length ? k : 0);
            about(b, 0x41 + k, 3, k);
        }
    }

    /** "the first letter times 256 and the second" */
    private static void categories() {
        Bench b = new Bench();
        for (int k = 0; k < 26; k++) {
            b.lines(0, String.format("%04X;%c%c;0;;;;", 0x41 + k, 'A' + k, 'z' - k));
        }
        b.sealed();
        for (int k = 0; k < 26; k++) {
            about(b, 0x41 + k, 0, ('A' + k) * 256 + 'z' - k);
        }
    }

    /** A range keeps on both sides what it was told when a point within it is told anything else. */
    private static void cutRanges() {
        String[] cuts = {"0042;Lt;3;;;;", "0042;0001;;;", "0042;F;0001", "0042;Soft_Dotted", "0042;GCB=CR", "0042;WB=CR"};
        int[] kinds = {0, 1, 2, 3, 3, 3};
        for (int k = 0; k < cuts.length; k++) {
            Bench b = new Bench().lines(0, "0041..0043;Lu;9;;;;").lines(3, "0041..0043;GCB=LF", "0041..0043;WB=Numeric", "0041..0043;Cased");
            b.lines(kinds[k], cuts[k]).sealed();
            for (int point : new int[] {0x40, 0x41, 0x43, 0x44}) {
                boolean within = point == 0x41 || point == 0x43;
                about(b, point, 0, within ? 'L' * 256 + 'u' : 'C' * 256 + 'n');
                about(b, point, 1, within ? 9 : 0);
                about(b, point, 2, within ? 2 : 0);
                about(b, point, 3, within ? 16 : 0);
                about(b, point, 6, within ? 4 : 0);
            }
            about(b, 0x42, 1, k == 0 ? 3 : 9);
            about(b, 0x42, 2, k == 4 ? 1 : 2);
            about(b, 0x42, 3, k == 5 ? 1 : 16);
            about(b, 0x42, 6, k == 3 ? 12 : 4);
        }
    }

    private static void lengths() {
        Bench b = new Bench().lines(0, "0041;Lu;0;0042 0043;;;", "0042;Lu;0;0044 0045;;;", "0043;Lu;0;<a>0046 0047 AC01;;;", "0048;Lu;0;AC00 0300;;;").sealed();
        about(b, 0x41, 4, 3);
        about(b, 0x41, 5, 7);
        about(b, 0x42, 4, 2);
        about(b, 0x43, 4, 1);
        about(b, 0x43, 5, 5);
        about(b, 0x44, 4, 1);
        about(b, 0x44, 5, 1);
        about(b, 0x48, 4, 3);
        about(b, 0xAC00, 4, 2);
        about(b, 0xAC01, 5, 3);
        about(b, 0xD7A3, 4, 3);
        about(b, 0xD7A4, 4, 1);
    }

    private static void properties() {
        String[] names = {"Composition_Exclusion", "Case_Ignorable", "Cased", "Soft_Dotted", "Extended_Pictographic", "Unified_Ideograph"};
        Bench b = new Bench().lines(0, "0050;Lu;0;;;;");
        for (int k = 0; k < 6; k++) {
            b.lines(3, String.format("%04X;%s", 0x41 + k, names[k]), "0060;" + names[k]);
        }
        b.lines(3, "0060;Cased").sealed();
        for (int k = 0; k < 6; k++) {
            about(b, 0x41 + k, 6, 1 << k);
        }
        about(b, 0x60, 6, 63);
        about(b, 0x50, 6, 0);
        about(b, 0x61, 6, 0);
    }

    private static void roles() {
        Bench b = new Bench().lines(0, "00C5;Lu;0;0041 030A;;;", "00C6;Lu;0;0041 0042;;;", "00C7;Lu;0;030A 0043;;;", "030A;Mn;230;;;;");
        b.lines(0, "00C8;Lu;9;0041 0044;;;", "00C9;Lu;0;0041 0045;;;", "00CA;Lu;0;00C5;;;", "00CB;Lu;0;<a>030A 0046;;;", "00CC;Lu;0;030A;;;", "00CD;Lu;0;0041 030B;;;");
        b.lines(3, "00C9;Composition_Exclusion", "0042;Composition_Exclusion").sealed();
        about(b, 0x0041, 7, 0);
        about(b, 0x030B, 7, 2);
        about(b, 0x030C, 7, 0);
        about(b, 0x0042, 7, 3);
        about(b, 0x030A, 7, 3);
        about(b, 0x0043, 7, 0);
        about(b, 0x0044, 7, 0);
        about(b, 0x0045, 7, 0);
        about(b, 0x00C5, 7, 0);
        about(b, 0x00C7, 7, 1);
        about(b, 0x00C8, 7, 1);
        about(b, 0x00C9, 7, 1);
        about(b, 0x00CA, 7, 0);
        about(b, 0x00CB, 7, 0);
        about(b, 0x00CC, 7, 0);
        about(b, 0x1161, 7, 0);
        about(b, 0xAC00, 7, 0);
        Bench hangul = new Bench().lines(0, "1100;Lo;1;;;;", "1161;Lo;2;;;;", "C544;Lo;3;;;;").sealed();
        about(hangul, 0x1100, 7, 1);
        about(hangul, 0xAC00, 7, 1);
        about(hangul, 0xAC01, 7, 0);
        about(hangul, 0xB098, 7, 0);
        about(hangul, 0xC544, 7, 1);
    }
}
