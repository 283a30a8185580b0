/** Promise 15 (change) with the CONDITIONS. */
final class CasingTest {
    public static void main(String[] args) {
        throwing();
        simple();
        special();
        fold();
        locales();
        finalSigma();
        softDotted();
        moreAbove();
        dots();
        afterI();
        classEdges();
        cased();
        foldLetters();
        title();
        titleWords();
        limits();
        Bench.finish();
    }

    private static void change(Bench b, int kind, int locale, String points, String want) {
        b.put(1, points);
        int many = want.isEmpty() ? 0 : want.split(" ").length;
        String what = "change " + kind + " locale " + locale + " of " + points;
        Bench.dueOf(what, () -> b.atlas.change(0, 1, kind, locale), many);
        Bench.due(what, b.show(0), want);
        Bench.due(what + ": source", b.show(1), points);
    }

    private static Bench letters() {
        Bench b = new Bench();
        b.lines(0, "0041;Lu;0;;;0061;", "0061;Ll;0;;0041;;", "0049;Lu;0;;;0069;", "0069;Ll;0;;0049;;0049");
        b.lines(0, "0300..0304;Mn;230;;;;", "0307;Mn;230;;;;", "0323;Mn;220;;;;", "0345;Mn;240;;;;");
        b.lines(0, "03A3;Lu;0;;;03C3;", "03C3;Ll;0;;03A3;;", "01C6;Ll;0;;01C4;;01C5", "01C4;Lu;0;;;01C6;01C5", "01C5;Lt;0;;01C4;01C6;");
        b.lines(3, "0027;Case_Ignorable", "0300..0345;Case_Ignorable", "0345;Cased", "0069;Soft_Dotted", "006A;Soft_Dotted");
        return b;
    }

    private static void throwing() {
        Bench b = new Bench().put(0, "41");
        TextAtlas x = b.atlas;
        Bench.state("not sealed", () -> x.change(0, 0, 0, 0));
        Bench.argument("argument before state", () -> x.change(0, 0, 4, 0));
        b.sealed();
        for (int bad : new int[] {-1, 8}) {
            Bench.argument("t", () -> x.change(bad, 0, 0, 0));
            Bench.argument("u", () -> x.change(0, bad, 0, 0));
        }
        for (int bad : new int[] {-1, 4}) {
            Bench.argument("kind", () -> x.change(0, 0, bad, 0));
            Bench.argument("locale", () -> x.change(0, 0, 0, bad));
        }
    }

    private static void simple() {
        Bench b = letters().sealed();
        change(b, 0, 0, "0041 0061 0042 01C5", "0061 0061 0042 01C6");
        change(b, 1, 0, "0041 0061 0042 01C5", "0041 0041 0042 01C4");
        change(b, 2, 0, "01C6", "01C5");
        change(b, 2, 0, "0061", "0041");
        change(b, 2, 0, "01C5", "01C4");
        change(b, 3, 0, "0041 0061", "0041 0061");
        change(b, 0, 3, "", "");
        b.put(0, "41").atlas.change(0, 0, 0, 0);
        Bench.due("t is u", b.show(0), "0061");
    }

    private static void special() {
        Bench b = letters();
        b.lines(1, "0041;0001;0002;0003;", "0041;;0012 0013;0022 0023 0024;", "0042;;;;");
        b.lines(1, "0061;0031;0032;0033;Before_Dot", "0061;0041;0042;0043;", "0061;0051;0052;0053;Before_Dot", "0061;0061;0062;0063;lt");
        b.sealed();
        change(b, 0, 0, "0041 0058 0041", "0058");
        change(b, 1, 0, "0041", "0022 0023 0024");
        change(b, 2, 0, "0041", "0012 0013");
        change(b, 0, 0, "0042", "");
        change(b, 0, 0, "0061", "0041");
        change(b, 1, 0, "0061 0307", "0033 0307");
        change(b, 1, 3, "0061", "0063");
        change(b, 2, 3, "0061 0307", "0032 0307");
    }

    private static void fold() {
        Bench b = letters();
        b.lines(2, "0041;C;0061", "0049;C;0069", "0049;T;0131", "00DF;F;0073 0073", "00DF;S;0053", "1E9E;S;00DF", "0042;C;0062");
        b.lines(2, "0042;F;0062 0062", "0043;C;0063", "0043;C;0064", "0130;T;0069", "0044;T;0001", "0044;F;0002", "0044;C;0003").sealed();
        change(b, 3, 0, "0041 0049 00DF 1E9E 0042 0043 0130 0044", "0061 0069 0073 0073 1E9E 0062 0062 0064 0130 0002");
        change(b, 3, 1, "0049 0130 0044", "0131 0069 0001");
        change(b, 3, 2, "0049 0130 0044", "0131 0069 0001");
        change(b, 3, 3, "0049 0130 0044", "0069 0130 0002");
    }

    private static void locales() {
        Bench b = letters();
        b.lines(1, "0049;0001;;;tr", "0049;0002;;;az", "0049;0003;;;lt", "0041;0004;;;tr az").sealed();
        change(b, 0, 0, "0049 0041", "0069 0061");
        change(b, 0, 1, "0049 0041", "0001 0061");
        change(b, 0, 2, "0049 0041", "0002 0061");
        change(b, 0, 3, "0049 0041", "0003 0061");
    }

    private static void finalSigma() {
        Bench b = letters().lines(1, "03A3;03C2;03A3;03A3;Final_Sigma").sealed();
        change(b, 0, 0, "03A3", "03C3");
        change(b, 0, 0, "0041 03A3", "0061 03C2");
        change(b, 0, 0, "0041 03A3 0041", "0061 03C3 0061");
        change(b, 0, 0, "0041 0027 0300 03A3 0027", "0061 0027 0300 03C2 0027");
        change(b, 0, 0, "0041 03A3 0027 0300 0041", "0061 03C3 0027 0300 0061");
        change(b, 0, 0, "0041 0020 03A3", "0061 0020 03C3");
        change(b, 0, 0, "0041 03A3 0020 0041", "0061 03C2 0020 0061");
        change(b, 0, 0, "0345 03A3", "0345 03C3");
        change(b, 0, 0, "0020 0345 03A3", "0020 0345 03C3");
        change(b, 0, 0, "0041 03A3 0345", "0061 03C2 0345");
        change(b, 0, 0, "0041 03A3 03A3", "0061 03C3 03C2");
    }

    private static void softDotted() {
        Bench b = letters().lines(1, "0307;;;;After_Soft_Dotted lt").sealed();
        change(b, 1, 3, "0069 0307", "0049");
        change(b, 1, 0, "0069 0307", "0049 0307");
        change(b, 1, 3, "006A 0323 0345 0307", "006A 0323 0345");
        change(b, 1, 3, "0069 0300 0307", "0049 0300 0307");
        change(b, 1, 3, "0069 0041 0307", "0049 0041 0307");
        change(b, 1, 3, "0307", "0307");
        Bench two = letters().lines(0, "0323;Mn;230;;;;").lines(3, "0323;Soft_Dotted").lines(1, "0307;;;;After_Soft_Dotted").sealed();
        change(two, 1, 0, "0041 0323 0307", "0041 0323");
    }

    private static void moreAbove() {
        Bench b = letters().lines(1, "0049;0001;;;More_Above").sealed();
        change(b, 0, 0, "0049 0300", "0001 0300");
        change(b, 0, 0, "0049 0323 0345 0300", "0001 0323 0345 0300");
        change(b, 0, 0, "0049 0323 0041 0300", "0069 0323 0061 0300");
        change(b, 0, 0, "0049 0323", "0069 0323");
        change(b, 0, 0, "0300 0049", "0300 0069");
    }

    private static void dots() {
        Bench b = letters().lines(1, "0049;0001;;;Before_Dot", "0041;0002;;;Not_Before_Dot").sealed();
        change(b, 0, 0, "0049 0307 0041 0307", "0001 0307 0061 0307");
        change(b, 0, 0, "0049 0323 0307 0041 0323 0307", "0001 0323 0307 0061 0323 0307");
        change(b, 0, 0, "0049 0300 0307 0041 0300 0307", "0069 0300 0307 0002 0300 0307");
        change(b, 0, 0, "0049 0020 0307 0041 0020 0307", "0069 0020 0307 0002 0020 0307");
        change(b, 0, 0, "0049 0041", "0069 0002");
        change(b, 0, 0, "0307 0049", "0307 0069");
        change(b, 0, 0, "0049", "0069");
        change(b, 0, 0, "0041", "0002");
        Bench untold = new Bench().lines(1, "0049;0001;;;Before_Dot").sealed();
        change(untold, 0, 0, "0049 0307", "0001 0307");
    }

    private static void afterI() {
        Bench b = letters().lines(1, "0307;;;;After_I").sealed();
        change(b, 0, 0, "0049 0307", "0069");
        change(b, 0, 0, "0049 0323 0307", "0069 0323");
        change(b, 0, 0, "0049 0300 0307", "0069 0300 0307");
        change(b, 0, 0, "0049 0020 0307", "0069 0020 0307");
        change(b, 0, 0, "0069 0307 0307", "0069 0307 0307");
        change(b, 0, 0, "0049 0307 0307", "0069 0307");
        change(b, 0, 0, "0307 0049", "0307 0069");
    }

    /** What may stand between: a point of each of the classes around 0 and 230. */
    private static void classEdges() {
        for (int told : new int[] {0, 1, 229, 230, 231, 254}) {
            String fact = "2000;Mn;" + told + ";;;;";
            Bench b = letters().lines(0, fact).lines(1, "0307;;;;After_Soft_Dotted", "0049;0001;;;More_Above", "0061;0002;;;Before_Dot",
                "0042;0003;;;Not_Before_Dot").sealed();
            boolean through = told != 0 && told != 230;
            change(b, 1, 0, "006A 2000 0307", through ? "006A 2000" : "006A 2000 0307");
            change(b, 0, 0, "0049 2000 0300", told != 0 ? "0001 2000 0300" : "0069 2000 0300");
            change(b, 0, 0, "0049 2000", told == 230 ? "0001 2000" : "0069 2000");
            change(b, 0, 0, "0061 2000 0307", through ? "0002 2000 0307" : "0061 2000 0307");
            change(b, 0, 0, "0042 2000 0307", through ? "0042 2000 0307" : "0003 2000 0307");
            Bench afterI = letters().lines(0, fact).lines(1, "0307;;;;After_I").sealed();
            change(afterI, 0, 0, "0049 2000 0307", through ? "0069 2000" : "0069 2000 0307");
        }
    }

    /** Cased, or category Lu, Ll, Lt; nothing else. */
    private static void cased() {
        String[] categories = {"Lu", "Ll", "Lt", "Lm", "Lo", "Mn", "Nl", "Ku", "Mu", "Lv", "Lk"};
        Bench b = new Bench().lines(1, "03A3;03C2;;;Final_Sigma").lines(3, "2100;Cased");
        for (int k = 0; k < categories.length; k++) {
            b.lines(0, String.format("%04X;%s;0;;;;", 0x2000 + k, categories[k]));
        }
        b.sealed();
        for (int k = 0; k < categories.length; k++) {
            String c = String.format("%04X", 0x2000 + k);
            change(b, 0, 0, c + " 03A3", c + (k < 3 ? " 03C2" : " 03A3"));
            change(b, 0, 0, "2100 03A3 " + c, k < 3 ? "2100 03A3 " + c : "2100 03C2 " + c);
        }
        change(b, 0, 0, "2101 03A3", "2101 03A3");
        change(b, 0, 0, "2100 03A3", "2100 03C2");
    }

    /** T in locales 1 and 2, else F, else C, else itself: all sets of letters in all locales. */
    private static void foldLetters() {
        String letters = "CFST";
        for (int set = 0; set < 16; set++) {
            Bench b = new Bench();
            for (int k = 0; k < 4; k++) {
                if ((set >> k & 1) != 0) {
                    b.lines(2, "0041;" + letters.charAt(k) + ";000" + (k + 1));
                }
            }
            b.sealed();
            for (int locale = 0; locale < 4; locale++) {
                boolean turkic = (set & 8) != 0 && (locale == 1 || locale == 2);
                change(b, 3, locale, "0041", turkic ? "0004" : (set & 2) != 0 ? "0002" : (set & 1) != 0 ? "0001" : "0041");
            }
        }
    }

    private static void titleWords() {
        Bench b = letters().lines(3, "0061..007A;WB=ALetter", "0041..005A;WB=ALetter", "0300..0345;WB=Extend", "0020;WB=WSegSpace").sealed();
        change(b, 2, 0, "0061", "0041");
        change(b, 2, 0, "0061 0061", "0041 0061");
        change(b, 2, 0, "0300 0061 0061", "0300 0041 0061");
        change(b, 2, 0, "0061 0300 0061", "0041 0300 0061");
        change(b, 2, 0, "0042 0043 0061 0041", "0042 0043 0041 0061");
        change(b, 2, 0, "0020 0020 0061", "0020 0020 0041");
        change(b, 2, 0, "0061 0020 0061 0020", "0041 0020 0041 0020");
        change(b, 2, 0, "0061 0345 0041", "0041 0345 0061");
        change(b, 2, 0, "0020", "0020");
        Bench whole = letters().lines(1, "0061;0001;0002;;Final_Sigma").lines(3, "0061;WB=ALetter").sealed();
        change(whole, 2, 0, "0061 0020 0061 0061", "0041 0020 0041 0001");
        change(whole, 2, 0, "0041 0061", "0041 0002");
    }

    private static void title() {
        Bench b = letters().lines(1, "03A3;03C2;03A3;03A3;Final_Sigma", "00DF;;0053 0073;;", "0046;0066;;0046;");
        b.lines(3, "0041..005A;WB=ALetter", "0061..007A;WB=ALetter", "03A3;WB=ALetter", "0027;WB=Single_Quote", "00DF;WB=ALetter",
            "00DF;Cased", "0046;Cased").sealed();
        change(b, 2, 0, "0041 0041 0020 0061 0041", "0041 0061 0020 0041 0061");
        change(b, 2, 0, "0027 0061 0041", "0027 0041 0061");
        change(b, 2, 0, "0042 0061 0061", "0042 0041 0061");
        change(b, 2, 0, "0041 0027 0061 0041", "0041 0027 0061 0061");
        change(b, 2, 0, "00DF 0041", "0053 0073 0061");
        change(b, 2, 0, "0046 0041 0046", "0061 0066");
        change(b, 2, 0, "0041 03A3 0020", "0041 03C2 0020");
        change(b, 2, 0, "0020 0021", "0020 0021");
        change(b, 2, 0, "0041 0020 03A3", "0041 0020 03A3");
    }

    private static void limits() {
        Bench b = letters().lines(1, "0058;;;0058 0058;", "0059;;0059;;").lines(2, "0058;F;0058 0058").sealed();
        TextAtlas x = b.atlas;
        b.grow(0, "0058 0058 0058 0058 0058", 7);
        Bench.due("640", x.size(0), 640);
        x.part(1, 0, 0, 360);
        x.join(0, 0, 1, 0);
        Bench.due("2000", x.change(1, 0, 1, 0), 2000);
        Bench.due("fold to 2000", x.change(1, 0, 3, 0), 2000);
        x.add(0, 0x41);
        Bench.bounds("2001", () -> x.change(1, 0, 1, 0));
        Bench.bounds("fold to 2001", () -> x.change(1, 0, 3, 0));
        Bench.due("text stays", x.size(1), 2000);
        Bench.due("title", x.change(1, 0, 2, 0), 1001);
    }
}
