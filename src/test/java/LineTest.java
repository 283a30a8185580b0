import java.util.Arrays;
import java.util.List;

/** Promise 4 (line), and what a LINE is: each part of it with the last allowed and the first refused on either side. */
final class LineTest {
    private static final String E1 = "[.0001.0002.0003]";
    private static final String FACT = ";Lu;0;;;;";
    private static final String[] GOOD = {"0041;Lu;0;;;;", "0041;;;;", "0041;C;0042", "0041;Cased", "0041;" + E1};
    private static final List<String> TRAITS = List.of("Composition_Exclusion", "Case_Ignorable", "Cased", "Soft_Dotted",
        "Extended_Pictographic", "Unified_Ideograph");
    private static final List<String> GCB =
        Arrays.asList("Other CR LF Control Extend ZWJ Regional_Indicator Prepend SpacingMark L V T LV LVT".split(" "));
    private static final List<String> WB = Arrays.asList(("Other CR LF Newline Extend ZWJ Regional_Indicator Format Katakana Hebrew_Letter "
        + "ALetter MidLetter MidNum MidNumLet Single_Quote Double_Quote Numeric ExtendNumLet WSegSpace").split(" "));
    private static final List<String> CONDITIONS =
        Arrays.asList("tr az lt Final_Sigma After_Soft_Dotted More_Above Before_Dot Not_Before_Dot After_I".split(" "));

    public static void main(String[] args) {
        order();
        bytes();
        remarks();
        fields();
        blanks();
        codes();
        digits();
        ranges();
        rows();
        categories();
        classes();
        tags();
        cases();
        manyPoints();
        conditions();
        folds();
        properties();
        elements();
        answers();
        Bench.finish();
    }

    private static String times(int n, String s) {
        return s.repeat(n).trim();
    }

    /** Lines on an object of their own, taken with that answer. */
    private static void taken(int want, int kind, String... lines) {
        for (String line : lines) {
            Bench b = new Bench();
            Bench.dueOf("line(" + kind + ") of '" + line + "'", () -> b.line(kind, line), want);
            Bench.due("tape after '" + line + "'", b.atlas.count(0), 0);
            Bench.due("lines after '" + line + "'", b.atlas.count(2), 1);
        }
    }

    /** Lines behind a good one, of which nothing may be left over. */
    private static void none(int kind, String... lines) {
        for (String line : lines) {
            Bench b = new Bench();
            b.line(kind, GOOD[kind]);
            b.none(kind, line);
        }
    }

    private static void takenIf(boolean good, int kind, String line) {
        if (good) {
            taken(1, kind, line);
        } else {
            none(kind, line);
        }
    }

    private static void order() {
        Bench b = new Bench();
        TextAtlas x = b.atlas;
        b.tape("0041;Lu;0;;;;");
        Bench.argument("kind -1", () -> x.line(-1));
        Bench.argument("kind 5", () -> x.line(5));
        Bench.due("tape stays", x.count(0), 13);
        Bench.due("line", x.line(0), 1);
        b.none(0, "");
        x.seal();
        b.tape("0041;Lu;0;;;;");
        Bench.argument("argument before state", () -> x.line(5));
        Bench.state("sealed", () -> x.line(0));
        Bench.due("tape stays when sealed", x.count(0), 13);
        Bench.due("lines", x.count(2), 1);
    }

    /** Bytes 9 and 32 .. 126, behind # too; only blanks may stand at the end of a field. */
    private static void bytes() {
        for (int octet = 0; octet < 256; octet++) {
            boolean allowed = octet == 9 || octet >= 32 && octet <= 126;
            String s = String.valueOf((char) octet);
            takenIf(allowed, 0, "0041;Lu;0;;;;#" + s);
            takenIf(allowed, 4, "0041;" + E1 + "#" + s + "#");
            boolean blank = octet == 9 || octet == 32;
            takenIf(blank || octet == '#', 0, "0041;Lu;0;;;;" + s);
            takenIf(blank, 3, s + "0041..0041" + s + ";" + s + "Cased");
            takenIf(blank, 2, "0041;C" + s + ";0042");
            takenIf(blank || octet == '#', 2, "0041;C;0042" + s + "0043");
            takenIf(blank || octet == '#', 1, "0041;;;;tr" + s + "az");
        }
    }

    private static void remarks() {
        none(0, "#", "##", " #", "# 0041;Lu;0;;;;", "0041;Lu;0;;;#;", "0041;Lu;0#;;;;", "#0041;Lu;0;;;;");
        taken(1, 0, "0041;Lu;0;;;;#", "0041;Lu;0;;;; # ;;;;;;", "0041;Lu;0;;;;# [0041]", "0041;Lu;0;;;;#\t#");
        none(1, "0041;;;#;", "0041;;;");
        taken(1, 1, "0041;;;;#", "0041;;;; tr # az");
        none(2, "0041;C#;0042", "0041;C;#0042");
        none(3, "0041;#Cased");
        none(4, "0041;#" + E1, "0041;[.0001.0002.#0003]");
        taken(1, 3, "0041;Cased#x");
    }

    /** Just as many as told: one less, one more; the last one may be nothing where it may, but its ; is there. */
    private static void fields() {
        for (int kind = 0; kind < 5; kind++) {
            String line = GOOD[kind];
            taken(1, kind, line);
            none(kind, "", " ", "\t", ";", line + ";", line + ";;", line + " ; ", ";" + line, line.substring(0, line.lastIndexOf(';')));
            for (int other = 0; other < 5; other++) {
                takenIf(other == kind, other, line);
            }
        }
        none(0, ";Lu;0;;;;", "0041;;0;;;;", "0041;Lu;;;;;");
        none(1, ";;;;");
        none(2, ";C;0042", "0041;;0042", "0041;C;");
        none(3, ";Cased", "0041;");
        none(4, ";" + E1, "0041;");
    }

    private static void blanks() {
        taken(1, 0, "\t 0041 \t; Lu\t;\t0 ; ; ;; ", " 0041;Lu;0;\t<x>\t0042 ; 0043 ;\t0044\t; 0045 ");
        taken(1, 1, " 0041 ; 0042  \t0043 ;\t; 0044 ; tr \t az ");
        taken(1, 2, "\t0041\t;\tC\t;\t0042\t");
        taken(1, 3, " 0041 ; GCB=LVT ", "0041\t;\tCased\t");
        taken(1, 4, " 0041 ; " + E1 + " ", "0041;\t" + E1 + "\t\t" + E1);
        none(0, "00 41;Lu;0;;;;", "0041;L u;0;;;;", "0041;Lu;1 1;;;;", "0041;Lu;0;;00 42;;");
        none(2, "0041;C F;0042");
        none(3, "0041;Ca sed", "0041;GCB =CR", "0041;GCB= CR", "0041;WB =CR", "0041;WB= CR", "0041;Cased Cased");
        none(4, "0041;[ .0001.0002.0003]", "0041;[.0001.0002.0003 ]", "0041;[.0001 .0002.0003]", "0041;[. 0001.0002.0003]");
    }

    /** 4 to 6 digits, no 0 first if more than 4, and a POINT. */
    private static void codes() {
        taken(1, 0, "0000" + FACT, "FFFF" + FACT, "10000" + FACT, "FFFFF" + FACT, "100000" + FACT, "10FFFF" + FACT, "D800" + FACT, "DFFF" + FACT);
        none(0, "000" + FACT, "FFF" + FACT, "0" + FACT, "00000" + FACT, "0FFFF" + FACT, "01000" + FACT, "010000" + FACT, "000000" + FACT);
        none(0, "110000" + FACT, "200000" + FACT, "FFFFFF" + FACT, "0010FFFF" + FACT, "010FFFF" + FACT, "1000000" + FACT, "100000041" + FACT);
        String[] bad = {"041", "00041", "000041", "110000", "0010FFFF", "004g", "00e9", "-041", "+041", "U+0041", "0x41"};
        String[] good = {"0000", "10FFFF", "FFFF", "10000", "DFFF"};
        for (String code : bad) {
            none(0, "0041;Lu;0;" + code + ";;;", "0041;Lu;0;;" + code + ";;", "0041;Lu;0;;;" + code + ";", "0041;Lu;0;;;;" + code);
            none(1, code + ";;;;", "0041;" + code + ";;;", "0041;;" + code + ";;", "0041;;;" + code + ";");
            none(2, code + ";C;0042", "0041;C;" + code, "0041;C;0042 " + code);
            none(3, code + ";Cased", "0000.." + code + ";Cased");
            none(4, code + ";" + E1, "0041 " + code + ";" + E1, "0041 0042 " + code + ";" + E1);
        }
        for (String code : good) {
            taken(1, 0, "0041;Lu;0;" + code + ";" + code + ";" + code + ";" + code);
            taken(1, 1, code + ";" + code + ";" + code + ";" + code + ";");
            taken(1, 2, code + ";C;" + code);
            taken(1, 3, code + ";Cased", code + ".." + code + ";Cased");
            taken(2, 4, code + " " + code + ";" + E1);
        }
    }

    /** 0 .. 9 and A .. F, no other byte before, between or behind. */
    private static void digits() {
        for (int octet = 33; octet < 127; octet++) {
            char c = (char) octet;
            boolean digit = c >= '0' && c <= '9' || c >= 'A' && c <= 'F';
            takenIf(digit, 2, "004" + c + ";C;0042");
            takenIf(digit, 2, "0041;C;" + c + "042");
            takenIf(digit && c != '0', 2, c + "0000;C;0042");
            takenIf(digit, 4, "0041;[.000" + c + ".0002.0003]");
            takenIf(digit, 4, "0041;[.0001." + c + "002.0003]");
            takenIf(digit, 4, "0041;[.0001.0002.00" + c + "3]");
            boolean decimal = c >= '0' && c <= '9';
            takenIf(decimal, 0, "0041;Lu;" + c + ";;;;");
            takenIf(decimal && c <= '1', 0, "0041;Lu;" + c + "99;;;;");
        }
    }

    /** CODE or CODE..CODE, the first not above the second; only kinds 0 and 3 have them. */
    private static void ranges() {
        taken(1, 0, "0041..0041" + FACT, "10FFFF..10FFFF" + FACT);
        taken(2, 0, "0041..0042" + FACT, "FFFF..10000" + FACT, "10FFFE..10FFFF" + FACT);
        taken(0x110000, 0, "0000..10FFFF" + FACT);
        taken(0x110000, 3, "0000..10FFFF;Cased");
        taken(2, 3, "0041..0042;Cased");
        none(0, "0042..0041" + FACT, "10000..FFFF" + FACT, "0041." + FACT, "0041.." + FACT, "..0041" + FACT, "." + FACT, ".." + FACT);
        none(0, "0041.x0042" + FACT, "0041.10042" + FACT, "0041.-0042" + FACT, "0041. 0042" + FACT, "0041 . . 0042" + FACT);
        none(0, "0041.0042" + FACT, "0041...0042" + FACT, "0041....0042" + FACT, "0041 ..0042" + FACT, "0041.. 0042" + FACT);
        none(0, "0041-0042" + FACT, "0041..0042..0043" + FACT, "0041 0042" + FACT, "0041..110000" + FACT, "0041..042" + FACT);
        none(3, "0042..0041;Cased", "0041..;Cased", "..0041;Cased", "0041 0042;Cased", "0041...0042;Cased");
        none(1, "0041..0042;;;;", "0041;0041..0042;;;");
        none(2, "0041..0042;C;0043", "0041;C;0042..0043");
        none(4, "0041..0042;" + E1);
    }

    /** 1 to 18 codes; 3 at most in kind 4. */
    private static void rows() {
        for (int many = 1; many <= 20; many++) {
            String row = times(many, "0042 ");
            boolean good = many <= 18;
            takenIf(good, 0, "0041;Lu;0;" + row + ";;;");
            takenIf(good, 0, "0041;Lu;0;<x>" + row + ";;;");
            takenIf(good, 1, "0041;" + row + ";;;");
            takenIf(good, 1, "0041;;" + row + ";;");
            takenIf(good, 1, "0041;;;" + row + ";");
            takenIf(good, 2, "0041;F;" + row);
            if (many <= 3) {
                taken(many, 4, row + ";" + E1);
            } else {
                none(4, row + ";" + E1);
            }
        }
        none(2, "0041;F;0042,0043", "0041;F;00420043", "0041;F;0042 43");
        none(0, "0041;Lu;0;0042,0043;;;", "0041;Lu;0;<x>;;;", "0041;Lu;0;<x> ;;;");
    }

    private static void categories() {
        taken(1, 0, "0041;Aa;0;;;;", "0041;Zz;0;;;;", "0041;Az;0;;;;", "0041;Za;0;;;;");
        none(0, "0041;;0;;;;", "0041;L;0;;;;", "0041;Luu;0;;;;", "0041;LU;0;;;;", "0041;lu;0;;;;", "0041;lU;0;;;;", "0041;L1;0;;;;");
        none(0, "0041;@a;0;;;;", "0041;[a;0;;;;", "0041;A`;0;;;;", "0041;A{;0;;;;");
    }

    /** 0 .. 254, of one to three digits. */
    private static void classes() {
        taken(1, 0, "0041;Lu;0;;;;", "0041;Lu;00;;;;", "0041;Lu;000;;;;", "0041;Lu;9;;;;", "0041;Lu;09;;;;", "0041;Lu;254;;;;", "0041;Lu;199;;;;");
        none(0, "0041;Lu;;;;;", "0041;Lu;255;;;;", "0041;Lu;256;;;;", "0041;Lu;300;;;;", "0041;Lu;999;;;;", "0041;Lu;0000;;;;", "0041;Lu;0254;;;;");
        none(0, "0041;Lu;-1;;;;", "0041;Lu;+1;;;;", "0041;Lu;1A;;;;", "0041;Lu;1.0;;;;", "0041;Lu;4294967297;;;;");
        for (int told : new int[] {0, 1, 9, 10, 99, 100, 254}) {
            Bench b = new Bench().lines(0, "0041;Lu;" + told + ";;;;").sealed();
            Bench.due("class", b.atlas.about(0x41, 1), told);
        }
    }

    /** <, letters, > and ROW. */
    private static void tags() {
        for (int octet = 33; octet < 127; octet++) {
            char c = (char) octet;
            boolean letter = c >= 'A' && c <= 'Z' || c >= 'a' && c <= 'z';
            takenIf(letter, 0, "0041;Lu;0;<" + c + ">0042;;;");
            takenIf(letter, 0, "0041;Lu;0;<x" + c + "y> 0042;;;");
        }
        taken(1, 0, "0041;Lu;0;<x>0042;;;", "0041;Lu;0;<x> \t0042;;;", "0041;Lu;0;<" + times(90, "x") + ">0042;;;");
        none(0, "0041;Lu;0;<>0042;;;", "0041;Lu;0;<x>;;;", "0041;Lu;0;<x;;;", "0041;Lu;0;<;;;", "0041;Lu;0;>;;;", "0041;Lu;0;x>0042;;;");
        none(0, "0041;Lu;0;< x>0042;;;", "0041;Lu;0;<x >0042;;;", "0041;Lu;0;<x y>0042;;;", "0041;Lu;0;<x0042;;;", "0041;Lu;0;x 0042;;;");
        none(0, "0041;Lu;0;<x 0042;;;", "0041;Lu;0;<x10042;;;", "0041;Lu;0;<x<0042;;;", "0041;Lu;0;<x> > 0042;;;");
        none(0, "0041;Lu;0;<x><y>0042;;;", "0041;Lu;0;<x>0042>;;;", "0041;Lu;0;0042<x>;;;", "0041;Lu;0;0042 <x>0043;;;", "0041;Lu;0;<<x>0042;;;");
    }

    private static void cases() {
        taken(1, 0, "0041;Lu;0;;0042;;", "0041;Lu;0;;;0042;", "0041;Lu;0;;;;0042", "0041;Lu;0;0042;0043;0044;0045");
        none(0, "0041;Lu;0;;0042 0043;;", "0041;Lu;0;;;0042 0043;", "0041;Lu;0;;;;0042 0043", "0041;Lu;0;;<x>0042;;", "0041;Lu;0;;0042..0042;;");
    }

    /** Of more than one POINT the last four fields are nothing. */
    private static void manyPoints() {
        taken(1, 0, "0041..0041;Lu;0;0042;;;", "0041..0041;Lu;0;;0042;;", "0041..0041;Lu;0;;;0042;", "0041..0041;Lu;0;;;;0042");
        none(0, "0041..0042;Lu;0;0042;;;", "0041..0042;Lu;0;;0042;;", "0041..0042;Lu;0;;;0042;", "0041..0042;Lu;0;;;;0042", "0041..0042;Lu;0;<x>0042;;;");
        taken(2, 0, "0041..0042;Lu;254; ; ;\t; ");
    }

    /** None or more, each once. */
    private static void conditions() {
        for (String name : CONDITIONS) {
            taken(1, 1, "0041;;;;" + name, "0041;0042;0043;0044; " + name + " ");
            none(1, "0041;;;;" + name + " " + name, "0041;;;;" + name + name, "0041;;;;x" + name, "0041;;;;" + name + "_", "0041;;;;" + name + " x");
            none(1, "0041;;;;" + name.substring(1), "0041;;;;" + name.substring(0, name.length() - 1), "0041;;;;" + name.toUpperCase());
            for (String other : CONDITIONS) {
                takenIf(!name.equals(other), 1, "0041;;;;" + name + " " + other);
                takenIf(!name.equals(other), 1, "0041;;;;" + name + "\t \t" + other);
                none(1, "0041;;;;" + name + " " + other + " " + name, "0041;;;;" + name + "," + other);
            }
        }
        taken(1, 1, "0041;;;;", "0041;;;; ", "0041;;;;" + String.join(" ", CONDITIONS));
        none(1, "0041;;;;" + String.join(" ", CONDITIONS) + " tr", "0041;;;;Final_sigma", "0041;;;;el");
    }

    private static void folds() {
        for (int octet = 33; octet < 127; octet++) {
            char c = (char) octet;
            takenIf("CFST".indexOf(c) >= 0, 2, "0041;" + c + ";0042");
        }
        none(2, "0041;CF;0042", "0041;CC;0042", "0041;C F;0042");
    }

    private static void properties() {
        names(TRAITS, "");
        names(GCB, "GCB=");
        names(WB, "WB=");
        none(3, "0041;GCB", "0041;GCB=", "0041;WB", "0041;WB=", "0041;=CR", "0041;CR", "0041;gcb=CR", "0041;wb=CR", "0041;GCB==CR", "0041;WB=GCB=CR");
        none(3, "0041;GCB=Cased", "0041;WB=Cased", "0041;SB=CR", "0041;GCB:CR", "0041;Alphabetic", "0041;GCB=CR WB=CR", "0041;GCB=E_Base");
    }

    /** Each of the names, and none that has a byte less, more, or of the other case. */
    private static void names(List<String> names, String prefix) {
        for (String name : names) {
            taken(1, 3, "0041;" + prefix + name);
            String[] near = {name.substring(1), name.substring(0, name.length() - 1), name + "_", "_" + name, name + "x", name.toLowerCase(),
                name.toUpperCase(), name + name};
            for (String other : near) {
                takenIf(names.contains(other), 3, "0041;" + prefix + other);
            }
            takenIf(prefix.equals("") || WB.contains(name), 3, "0041;" + (prefix.equals("") ? "" : "WB=") + name);
            takenIf(prefix.equals("") || GCB.contains(name), 3, "0041;" + (prefix.equals("") ? "" : "GCB=") + name);
        }
    }

    /** 1 to 18, blanks between or none. */
    private static void elements() {
        for (int many = 1; many <= 20; many++) {
            takenIf(many <= 18, 4, "0041;" + times(many, E1));
            takenIf(many <= 18, 4, "0041;" + times(many, E1 + " "));
        }
        taken(1, 4, "0041;[*0001.0002.0003]", "0041;[.0000.0000.0000]", "0041;[*FFFF.FFFF.FFFF]", "0041;" + E1 + "[*0000.0000.0000]\t " + E1);
        none(4, "0041;[.0000.0000]", "0041;[.0000.0000.0000.0000]", "0041;[0000.0000.0000]", "0041;[-0000.0000.0000]", "0041;[..0000.0000.0000]");
        none(4, "0041;[.000.0000.0000]", "0041;[.0000.000.0000]", "0041;[.0000.0000.000]", "0041;[.00000.0000.0000]", "0041;[.0000.0000.00000]");
        none(4, "0041;[.0000*0000.0000]", "0041;[.0000.0000*0000]", "0041;[.0000.0000.0000", "0041;.0000.0000.0000]", "0041;.0000.0000.0000");
        none(4, "0041;" + E1 + "x", "0041;x" + E1, "0041;" + E1 + "," + E1, "0041;" + E1 + "]", "0041;[" + E1, "0041;" + E1 + " [", "0041;[]");
        none(4, "0041;(.0000.0000.0000)", "0041;[*.0000.0000.0000]", "0041;[.000a.0000.0000]");
    }

    /** How many POINTS it tells of; in kind 4 how many its ROW has. */
    private static void answers() {
        taken(70, 3, "0300..0345;Case_Ignorable");
        taken(11172, 0, "AC00..D7A3;Lo;0;;;;");
        taken(1, 1, "0041;0042 0043;0042 0043;0042 0043;");
        taken(1, 2, "0041;F;0042 0043 0044");
        taken(1, 4, "0041;" + times(18, E1));
        taken(2, 4, "0041 0041;" + E1);
        taken(3, 4, "0041\t0041  0041;" + E1);
    }
}
