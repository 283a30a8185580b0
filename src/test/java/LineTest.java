/** Promise 4 (line), and what a LINE is. */
final class LineTest {
    private static final String E1 = "[.0001.0002.0003]";

    public static void main(String[] args) {
        order();
        common();
        codes();
        facts();
        specials();
        folds();
        properties();
        entries();
        Bench.finish();
    }

    private static String times(int n, String s) {
        return s.repeat(n).trim();
    }

    private static void order() {
        Bench b = new Bench();
        TextAtlas x = b.atlas;
        b.tape("0041;Lu;0;;;;");
        Bench.argument("kind -1", () -> x.line(-1));
        Bench.argument("kind 5", () -> x.line(5));
        Bench.due("tape stays", x.count(0), 13);
        Bench.due("line", x.line(0), 1);
        b.none(0, "");
        x.seal();
        b.tape("0041;Lu;0;;;;");
        Bench.argument("argument before state", () -> x.line(5));
        Bench.state("sealed", () -> x.line(0));
        Bench.due("tape stays when sealed", x.count(0), 13);
        Bench.due("lines", x.count(2), 1);
    }

    private static void common() {
        Bench b = new Bench();
        b.none(0, " ", "#", "# 0041;Lu;0;;;;", "0041;Lu;0;;;", "0041;Lu;0;;;;;", "0041;Lu;0#;;;;");
        b.none(0, "0041;Lu;0;;;;\n", "0041;Lu;0;;;;\0", "0041;Lu;0;;;;#\u007f", "0041;Lu;0;;;;# \u00e9");
        b.none(1, "0041;0042;0042;0042", "0041;0042;0042;0042;tr;").none(2, "0041;C", "0041;C;0042;");
        b.none(3, "0041", "0041;Cased;").none(4, "0041", "0041;" + E1 + ";");
        b.lines(0, "\t 0041 \t; Lu\t;\t0 ; ; ;; # ~;;", "0041;Lu;0;;;;#", "0041;Lu;0;;;;#\t#");
        Bench.due("taken", b.atlas.count(2), 3);
    }

    private static void codes() {
        Bench b = new Bench();
        String rest = ";Lu;0;;;;";
        Bench.due("all", b.line(0, "0000..10FFFF" + rest), 0x110000);
        Bench.due("five digits", b.line(0, "10000" + rest), 1);
        Bench.due("a range of one", b.line(0, "D800..D800" + rest), 1);
        Bench.due("two", b.line(0, "FFFF..10000" + rest), 2);
        b.none(0, "041" + rest, "00041" + rest, "000041" + rest, "110000" + rest, "1000000" + rest, "00e9" + rest);
        b.none(0, "004G" + rest, "" + rest, "0041.0042" + rest, "0041...0042" + rest, "0041 ..0042" + rest);
        b.none(0, "0041.. 0042" + rest, "0042..0041" + rest, "0041.." + rest, "..0041" + rest, "0041 0042" + rest);
        b.none(1, "0041..0042;;;;", "041;;;;").none(2, "0041..0042;C;0043", ";C;0043");
    }

    private static void facts() {
        Bench b = new Bench();
        b.none(0, "0041;@a;0;;;;", "0041;[a;0;;;;", "0041;A`;0;;;;", "0041;A{;0;;;;", "0041;Lu;0;<@>0042;;;", "0041;Lu;0;<{>0042;;;");
        b.none(0, "0041;Lu;0;<`>0042;;;", "0041;Lu;0;<[>0042;;;", "0041;Lu;/;;;;", "0041;Lu;:;;;;");
        b.none(0, "0041;L;0;;;;", "0041;LU;0;;;;", "0041;lu;0;;;;", "0041;Luu;0;;;;", "0041;L1;0;;;;", "0041;;0;;;;");
        b.none(0, "0041;Lu;;;;;", "0041;Lu;255;;;;", "0041;Lu;0000;;;;", "0041;Lu;-1;;;;", "0041;Lu;1 1;;;;");
        b.none(0, "0041;Lu;0;<>0042;;;", "0041;Lu;0;<x>;;;", "0041;Lu;0;<x;;;", "0041;Lu;0;x>0042;;;");
        b.none(0, "0041;Lu;0;<x1> 0042;;;", "0041;Lu;0;< x>0042;;;", "0041;Lu;0;0042,0043;;;", "0041;Lu;0;42;;;");
        b.none(0, "0041;Lu;0;" + times(19, "0042 ") + ";;;", "0041;Lu;0;0042..0043;;;", "0041;Lu;0;<a><b>0042;;;");
        b.none(0, "0041;Lu;0;;0042 0043;;", "0041;Lu;0;;;42;", "0041;Lu;0;;;;x", "0041;Lu;0;;<x>0042;;");
        b.none(0, "0041..0042;Lu;0;0043;;;", "0041..0042;Lu;0;;0043;;", "0041..0042;Lu;0;;;0043;",
            "0041..0042;Lu;0;;;;0043");
        b.lines(0, "0041;Aa;0;<AZaz>0042;;;", "0041;Zz;000;;;;", "0041;Lu;254;;;;", "0041;Lu;09;<aZ>0042\t0043;0044;0045;10FFFF");
        b.lines(0, "0041;Lu;0;<x>  " + times(18, "0042 ") + ";;;", "0041..0041;Lu;0;0042;0043;;");
    }

    private static void specials() {
        Bench b = new Bench();
        b.none(1, "0041;;;;tr tr", "0041;;;;xx", "0041;;;;TR", "0041;;;;tr,az", "0041;;;;Final_Sigma_", "0041;;;;trFinal_Sigma");
        b.none(1, "0041;42;;;", "0041;;42;;", "0041;;;42;", "0041;" + times(19, "0042 ") + ";;;", ";;;;");
        b.lines(1, "0041;;;;", "0041;0042 0043;;0044;", "0041;" + times(18, "0042 ") + ";;;");
        b.lines(1, "0041;;;;tr az lt\tFinal_Sigma After_Soft_Dotted  More_Above Before_Dot Not_Before_Dot After_I");
    }

    private static void folds() {
        Bench b = new Bench();
        b.none(2, "0041;X;0042", "0041;;0042", "0041;CF;0042", "0041;c;0042", "0041;C;", "0041;C;42");
        b.none(2, "0041;F;" + times(19, "0042 "));
        b.lines(2, "0041;C;0042", "0041;F;" + times(18, "0042 "), "0041;S;0042", "0041;T;0042 0043");
    }

    private static void properties() {
        Bench b = new Bench();
        b.none(3, "0041;", ";Cased", "0041;cased", "0041;Case", "0041;Cased Cased", "0041;GCB", "0041;GCB=", "0041;GCB=Foo");
        b.none(3, "0041;GCB= CR", "0041;GCB =CR", "0041;WB=Control", "0041;GCB=Newline", "0041;WB=", "0041;LVT", "0041;gcb=CR");
        Bench.due("range", b.line(3, "0300..0345;Case_Ignorable"), 70);
        b.lines(3, "0041;Composition_Exclusion", "0041;Cased", "0041;Soft_Dotted", "0041;Extended_Pictographic");
        b.lines(3, "0041;Unified_Ideograph", "0041;GCB=Other", "0041;WB=Other", "0041 ; WB=WSegSpace");
    }

    private static void entries() {
        Bench b = new Bench();
        b.none(4, "0041;", ";" + E1, "0041 0042 0043 0044;" + E1, "0041..0042;" + E1, "0041;[.0000.0000]");
        b.none(4, "0041;[.0000.0000.0000", "0041;[.0000.0000.0000.0000]", "0041;[0000.0000.0000]", "0041;[-0000.0000.0000]");
        b.none(4, "0041;[.000.0000.0000]", "0041;[.00000.0000.0000]", "0041;[.000a.0000.0000]", "0041;[ .0001.0002.0003]");
        b.none(4, "0041;[.0000*0000.0000]", "0041;" + E1 + "x", "0041;" + E1 + "," + E1, "0041;" + times(19, E1));
        Bench.due("one", b.line(4, "0041;" + E1), 1);
        Bench.due("two", b.line(4, "0041  0042;" + E1 + E1 + " [*FFFF.FFFF.FFFF]"), 2);
        Bench.due("three", b.line(4, "0041\t0042 0043;" + times(18, E1)), 3);
    }
}
