/** Promises 12 (normal), 13 (is) and 14 (join). */
final class FormsTest {
    public static void main(String[] args) {
        throwing();
        forms();
        blocking();
        hangul();
        toldClassesOfHangul();
        order();
        allOrders();
        is();
        join();
        limits();
        Bench.finish();
    }

    private static Bench latin() {
        Bench b = new Bench();
        b.lines(0, "0300..0304;Mn;230;;;;", "0307;Mn;230;;;;", "030A;Mn;230;;;;", "0323;Mn;220;;;;", "0327;Mn;202;;;;");
        b.lines(0, "00C5;Lu;0;0041 030A;;;", "212B;Lu;0;00C5;;;", "1E63;Ll;0;0073 0323;;;", "1E61;Ll;0;0073 0307;;;");
        b.lines(0, "1E69;Ll;0;1E63 0307;;;", "0958;Lo;0;0915 093C;;;", "093C;Mn;7;;;;", "FB01;Ll;0;<compat> 0066 0069;;;");
        b.lines(0, "0344;Mn;230;0308 0301;;;", "0308;Mn;230;;;;", "3392;So;0;<x>FB01 1E69;;;", "0338;Mn;1;;;;");
        b.lines(0, "226E;Sm;0;003C 0338;;;", "09CB;Mc;0;09C7 09BE;;;");
        return b.lines(3, "0958;Composition_Exclusion");
    }

    private static void form(Bench b, int form, String points, String want) {
        b.put(1, points);
        Bench.dueOf("normal " + form + " of " + points, () -> b.atlas.normal(0, 1, form), want.split(" ").length);
        Bench.due("form " + form + " of " + points, b.show(0), want);
        Bench.due("source of " + points, b.show(1), points);
        b.put(2, want);
        Bench.due("is " + form + " " + want, b.atlas.is(2, form), true);
        Bench.due("is " + form + " " + points, b.atlas.is(1, form), points.equals(want));
    }

    private static void throwing() {
        Bench b = new Bench().put(0, "41").put(1, "42");
        TextAtlas x = b.atlas;
        Bench.state("normal", () -> x.normal(0, 1, 0));
        Bench.state("is", () -> x.is(0, 0));
        Bench.state("join", () -> x.join(0, 1, 1, 0));
        for (int i = 0; i < 2; i++) {
            for (int bad : new int[] {-1, 8}) {
                Bench.argument("normal t", () -> x.normal(bad, 0, 0));
                Bench.argument("normal u", () -> x.normal(0, bad, 0));
                Bench.argument("is t", () -> x.is(bad, 0));
                Bench.argument("join t", () -> x.join(bad, 0, 0, 0));
                Bench.argument("join u", () -> x.join(0, bad, 0, 0));
                Bench.argument("join v", () -> x.join(0, 0, bad, 0));
            }
            for (int bad : new int[] {-1, 4}) {
                Bench.argument("normal form", () -> x.normal(0, 0, bad));
                Bench.argument("is form", () -> x.is(0, bad));
                Bench.argument("join form", () -> x.join(0, 0, 0, bad));
            }
            if (i == 0) {
                b.sealed();
            }
        }
        Bench.due("nothing changed", b.show(0), "0041");
    }

    private static void forms() {
        Bench b = latin().sealed();
        form(b, 0, "00C5 212B 1E69", "0041 030A 0041 030A 0073 0323 0307");
        form(b, 2, "00C5 212B 0041 030A", "00C5 00C5 00C5");
        form(b, 1, "3392 0041", "0066 0069 0073 0323 0307 0041");
        form(b, 0, "3392 FB01", "3392 FB01");
        form(b, 2, "3392 FB01", "3392 FB01");
        form(b, 3, "3392", "0066 0069 1E69");
        form(b, 2, "1E61 0323", "1E69");
        form(b, 2, "0073 0307 0323", "1E69");
        form(b, 2, "0958", "0915 093C");
        form(b, 2, "0041 0344", "0041 0308 0301");
        form(b, 2, "0308 0301", "0308 0301");
        form(b, 2, "10FFFF 0000", "10FFFF 0000");
        Bench.due("of nothing", b.put(1, "").atlas.normal(0, 1, 3), 0);
        Bench.due("nothing is in all forms", b.atlas.is(0, 2), true);
        Bench.due("t is u", b.put(0, "00C5").atlas.normal(0, 0, 0), 2);
    }

    private static void blocking() {
        Bench b = latin().sealed();
        form(b, 2, "0041 0301 030A", "0041 0301 030A");
        form(b, 2, "0041 0323 030A", "00C5 0323");
        form(b, 2, "0041 0042 030A", "0041 0042 030A");
        form(b, 2, "030A 0041 030A", "030A 00C5");
        form(b, 2, "09C7 09BE", "09CB");
        form(b, 2, "09C7 0327 09BE", "09C7 0327 09BE");
        form(b, 2, "003C 0323 0338", "226E 0323");
        form(b, 2, "0073 0307 0307", "1E61 0307");
    }

    private static void hangul() {
        Bench b = new Bench().sealed();
        form(b, 0, "AC00 AC01 D7A3", "1100 1161 1100 1161 11A8 1112 1175 11C2");
        form(b, 1, "AC1C", "1100 1162");
        form(b, 2, "1100 1161 11A8 1112 1175 11C2", "AC01 D7A3");
        form(b, 2, "AC00 11A8", "AC01");
        form(b, 2, "AC01 11A8", "AC01 11A8");
        form(b, 2, "1100 1161 11A7", "AC00 11A7");
        form(b, 2, "1113 1161 1100 1176 AC00 11C3", "1113 1161 1100 1176 AC00 11C3");
        form(b, 2, "1100 1100 1161", "1100 AC00");
    }

    /** LINES may tell classes of jamos and syllables; their PAIRS stay. */
    private static void toldClassesOfHangul() {
        Bench b = new Bench().lines(0, "AC00;Lo;9;;;;", "1161;Lo;5;;;;", "00C5;Lu;0;0041 030A;;;", "030A;Mn;230;;;;");
        b.lines(3, "AC00..D7A3;Composition_Exclusion").sealed();
        form(b, 2, "1100 1161", "AC00");
        form(b, 2, "1100 1161 11A8", "AC00 11A8");
        form(b, 2, "0041 1100 1161 030A", "00C5 AC00");
        form(b, 2, "0041 1100 1161 030A 030A", "00C5 AC00 030A");
        Bench.due("excluded", b.atlas.about(0xAC00, 7), 1);
        Bench high = new Bench().lines(0, "AC00;Lo;235;;;;", "1161;Lo;225;;;;", "00C5;Lu;0;0041 030A;;;", "030A;Mn;230;;;;", "0323;Mn;220;;;;");
        high.sealed();
        form(high, 2, "0041 1100 1161 030A", "0041 AC00 030A");
        form(high, 2, "0041 1100 0323 1161 030A", "0041 AC00 0323 030A");
        form(high, 2, "0041 0323 030A", "00C5 0323");
        Bench vowel = new Bench().lines(0, "AC00;Lo;9;;;;", "00C5;Lu;0;0041 030A;;;", "030A;Mn;230;;;;").sealed();
        form(vowel, 2, "0041 1100 1161 030A", "00C5 AC00");
        form(vowel, 2, "1100 1161 030A", "AC00 030A");
        form(vowel, 2, "0041 0042 1100 1161 030A", "0041 0042 AC00 030A");
        Bench same = new Bench().lines(0, "AC00;Lo;1;;;;", "1161;Lo;5;;;;", "0331;Mn;5;;;;", "00C5;Lu;0;0041 0331;;;").sealed();
        form(same, 2, "0041 1100 1161 0331", "00C5 AC00");
    }

    private static void order() {
        Bench b = latin().sealed();
        form(b, 0, "0061 0301 0323 0300 0327", "0061 0327 0323 0301 0300");
        form(b, 0, "0301 0323 0061 0323 0301", "0323 0301 0061 0323 0301");
        form(b, 1, "0301 0327 0302 0323 0303 0338 0304", "0338 0327 0323 0301 0302 0303 0304");
        b.grow(0, "0301 0323", 9);
        Bench.due("long run, first", b.atlas.point(0, 511), 0x0323);
        Bench.due("long run, second", b.atlas.point(0, 512), 0x0301);
    }

    /** Marks of classes 1, 2, 2, 3, 254 in every order: the two of one class keep theirs. */
    private static void allOrders() {
        int[] marks = {0x301, 0x302, 0x303, 0x304, 0x305};
        Bench b = new Bench();
        for (int k = 0; k < 120; k++) {
            if (k % 20 == 0) {
                b = new Bench().lines(0, "0301;Mn;1;;;;", "0302;Mn;2;;;;", "0303;Mn;2;;;;", "0304;Mn;3;;;;", "0305;Mn;254;;;;").sealed();
            }
            java.util.List<Integer> left = new java.util.ArrayList<>();
            for (int mark : marks) {
                left.add(mark);
            }
            StringBuilder points = new StringBuilder("41");
            int code = k;
            for (int n = 5; n > 0; n--) {
                points.append(' ').append(Integer.toHexString(left.remove(code % n)));
                code /= n;
            }
            boolean turned = points.indexOf("303") < points.indexOf("302");
            b.put(1, points.toString()).atlas.normal(0, 1, 0);
            Bench.due("order of " + points, b.show(0), turned ? "0041 0301 0303 0302 0304 0305" : "0041 0301 0302 0303 0304 0305");
        }
    }

    private static void is() {
        Bench b = latin().sealed();
        b.write(0, "\u00C5".repeat(1000));
        Bench.due("1000 that are 2000 on the way", b.atlas.is(0, 2), true);
        Bench.due("not decomposed", b.atlas.is(0, 0), false);
        b.atlas.add(0, 0x41);
        Bench.due("2001 on the way", b.atlas.is(0, 2), false);
        Bench.due("2001 in it", b.atlas.is(0, 0), false);
        Bench.due("text stays", b.atlas.size(0), 1001);
    }

    private static void join() {
        Bench b = latin().sealed();
        b.put(0, "0041").put(1, "030A").put(2, "0058");
        Bench.due("join", b.atlas.join(2, 0, 1, 2), 1);
        Bench.due("composed over the seam", b.show(2), "00C5");
        Bench.due("the other way", b.atlas.join(2, 1, 0, 2), 2);
        Bench.due("points", b.show(2), "030A 0041");
        Bench.due("onto itself", b.atlas.join(1, 1, 1, 0), 2);
        Bench.due("points", b.show(1), "030A 030A");
        b.put(0, "0041 0301").put(1, "0323 0042");
        b.atlas.join(0, 0, 1, 0);
        Bench.due("ordered over the seam", b.show(0), "0041 0323 0301 0042");
        b.put(3, "").put(4, "");
        Bench.due("nothing", b.atlas.join(0, 3, 4, 3), 0);
    }

    private static void limits() {
        Bench b = new Bench().lines(0, "0042;Lu;0;0041 0301;;;", "0301;Mn;230;;;;", "0043;Lu;0;<a>0041 0041 0041;;;").sealed();
        TextAtlas x = b.atlas;
        b.put(0, "0042 0042 0042 0042 0042");
        for (int i = 0; i < 7; i++) {
            x.join(0, 0, 0, 2);
        }
        Bench.due("640", x.size(0), 640);
        x.part(1, 0, 0, 360);
        Bench.due("1000 composed are 2000 on the way", x.join(2, 0, 1, 2), 1000);
        Bench.due("is", x.is(2, 2), true);
        Bench.due("2000", x.normal(3, 2, 0), 2000);
        x.add(2, 0x41);
        Bench.bounds("2001 on the way", () -> x.normal(3, 2, 2));
        Bench.due("is not, as there are 2001 on the way", x.is(2, 2), false);
        Bench.bounds("join", () -> x.join(3, 2, 4, 2));
        Bench.due("text stays", x.size(3), 2000);
        Bench.due("is it", x.is(3, 0), true);
        Bench.due("back", x.normal(3, 3, 2), 1000);
        b.put(4, "43");
        for (int i = 0; i < 10; i++) {
            x.join(4, 4, 4, 0);
        }
        Bench.due("1024", x.size(4), 1024);
        Bench.bounds("compatible has 3072", () -> x.normal(4, 4, 1));
        Bench.bounds("compatible, composed", () -> x.normal(4, 4, 3));
        Bench.due("is not", x.is(4, 3), false);
        Bench.due("canonical has 1024", x.normal(4, 4, 0), 1024);
        Bench hangul = new Bench().sealed().write(0, "\uAC01".repeat(666)).put(1, "1100 1161").put(2, "AC01").put(3, "AC00");
        Bench.due("666 syllables", hangul.atlas.normal(4, 0, 2), 666);
        Bench.due("and two", hangul.atlas.join(4, 0, 1, 0), 2000);
        Bench.due("and one of two", hangul.atlas.join(4, 0, 3, 2), 667);
        Bench.bounds("and one of three", () -> hangul.atlas.join(4, 0, 2, 2));
        Bench.due("text stays", hangul.atlas.size(4), 667);
    }
}
