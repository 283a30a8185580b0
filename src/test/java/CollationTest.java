/** Promises 19 (key) and 20 (compare). */
final class CollationTest {
    public static void main(String[] args) {
        throwing();
        levels();
        implicit();
        implicitEdges();
        weightEdges();
        contractions();
        contractionEdges();
        gaps();
        shifted();
        compare();
        limits();
        Bench.finish();
    }

    private static void key(Bench b, String points, int strength, boolean shifted, String want) {
        b.put(0, points);
        String what = "key " + strength + " " + shifted + " of " + points;
        String packed = want.replace(" ", "");
        Bench.dueOf(what, () -> b.atlas.key(0, strength, shifted), packed.length() / 2);
        Bench.due(what, b.result(), packed);
    }

    private static void throwing() {
        Bench b = new Bench();
        TextAtlas x = b.atlas;
        Bench.state("key", () -> x.key(0, 1, false));
        Bench.state("compare", () -> x.compare(0, 1, 1, false));
        for (int i = 0; i < 2; i++) {
            for (int bad : new int[] {-1, 8}) {
                Bench.argument("key t", () -> x.key(bad, 1, false));
                Bench.argument("compare t", () -> x.compare(bad, 0, 1, true));
                Bench.argument("compare u", () -> x.compare(0, bad, 1, true));
            }
            for (int bad : new int[] {0, 5}) {
                Bench.argument("key strength", () -> x.key(0, bad, false));
                Bench.argument("compare strength", () -> x.compare(0, 0, bad, false));
            }
            if (i == 0) {
                b.sealed();
            }
        }
        Bench.due("key of nothing", x.key(0, 1, false), 0);
        Bench.due("key of nothing, 4", x.key(0, 4, true), 6);
        Bench.due("compare nothings", x.compare(0, 1, 4, true), 0);
    }

    private static Bench rows() {
        Bench b = new Bench().lines(0, "0301;Mn;230;;;;", "0302;Mn;230;;;;", "0323;Mn;220;;;;", "0327;Mn;202;;;;", "00C1;Lu;0;0041 0301;;;");
        b.lines(4, "0041;[.1000.0020.0008]", "0042;[.1100.0020.0008]", "0301;[.0000.0024.0002]", "0323;[.0000.002D.0002]");
        b.lines(4, "0020;[*0209.0020.0002]", "002D;[*020D.0020.0002]", "0000;[.0000.0000.0000]", "0009;[.0000.0000.0005]");
        return b;
    }

    private static void levels() {
        Bench b = rows().lines(4, "0043;[.1200.0020.0008][.1201.0000.0004] [.0000.0021.0000]").sealed();
        key(b, "0041 0042", 1, false, "1000 1100");
        key(b, "0041 0042", 2, false, "1000 1100 0000 0020 0020");
        key(b, "0041 0301 0042", 3, false, "1000 1100 0000 0020 0024 0020 0000 0008 0002 0008");
        key(b, "0041 0301 0042", 4, false, "1000 1100 0000 0020 0024 0020 0000 0008 0002 0008");
        key(b, "00C1", 2, false, "1000 0000 0020 0024");
        key(b, "0043", 3, false, "1200 1201 0000 0020 0021 0000 0008 0004");
        key(b, "0000", 3, false, "0000 0000");
        key(b, "0020", 3, false, "0209 0000 0020 0000 0002");
        Bench later = rows().lines(4, "0041;[.1999.0001.0002]").sealed();
        key(later, "0041", 1, false, "1999");
    }

    private static void implicit() {
        Bench b = rows().lines(3, "4E00..9FFF;Unified_Ideograph", "20000;Unified_Ideograph").sealed();
        key(b, "4E00", 3, false, "FB40 CE00 0000 0020 0000 0002");
        key(b, "9FFF", 1, false, "FB41 9FFF");
        key(b, "20000", 1, false, "FB44 8000");
        key(b, "20001", 1, false, "FBC4 8001");
        key(b, "10FFFF", 1, false, "FBE1 FFFF");
        key(b, "0061", 4, true, "FBC0 8061 0000 0020 0000 0002 0000 FFFF FFFF");
        key(b, "D800", 1, false, "FBC1 D800");
    }

    /** p / 8000 and p mod 8000, where they change. */
    private static void implicitEdges() {
        String[][] due = {{"0000", "00", "8000"}, {"7FFF", "00", "FFFF"}, {"8000", "01", "8000"}, {"FFFF", "01", "FFFF"}, {"10000", "02", "8000"},
            {"17FFF", "02", "FFFF"}, {"18000", "03", "8000"}, {"FFFFF", "1F", "FFFF"}, {"100000", "20", "8000"}, {"10FFFF", "21", "FFFF"}};
        Bench plain = new Bench().sealed();
        Bench unified = new Bench().lines(3, "0000..10FFFF;Unified_Ideograph").sealed();
        for (String[] row : due) {
            int more = Integer.parseInt(row[1], 16);
            key(plain, row[0], 2, false, String.format("%04X %s 0000 0020", 0xFBC0 + more, row[2]));
            key(unified, row[0], 3, false, String.format("%04X %s 0000 0020 0000 0002", 0xFB40 + more, row[2]));
            key(plain, row[0], 4, true, String.format("%04X %s 0000 0020 0000 0002 0000 FFFF FFFF", 0xFBC0 + more, row[2]));
        }
    }

    /** Weights as two bytes without sign, the higher first, at each level. */
    private static void weightEdges() {
        String[] weights = {"0000", "0001", "00FF", "0100", "0101", "7FFF", "8000", "8001", "FF00", "FFFF"};
        String[] shapes = {"[.%s.0001.0001]", "[.0001.%s.0001]", "[.0001.0001.%s]", "[*%s.0001.0001]"};
        for (int level = 1; level <= 4; level++) {
            Bench b = new Bench();
            for (int k = 0; k < weights.length; k++) {
                b.lines(4, String.format("%04X;" + shapes[level - 1], 0x41 + k, weights[k]));
            }
            b.sealed();
            for (int k = 1; k < weights.length; k++) {
                if (level < 4 || k > 1) {
                    order(b, Integer.toHexString(0x41 + k - 1), Integer.toHexString(0x41 + k), level, level == 4, -1);
                }
                if (level > 1 && (level < 4 || k > 1)) {
                    order(b, Integer.toHexString(0x41 + k - 1), Integer.toHexString(0x41 + k), level - 1, level == 4, 0);
                }
            }
        }
    }

    /** Rows of one, two and three points, each without those that it begins with. */
    private static void contractionEdges() {
        Bench three = new Bench().lines(4, "0041 0042 0043;[.1000.0000.0000]").sealed();
        key(three, "0041 0042 0043", 1, false, "1000");
        key(three, "0041 0042", 1, false, "FBC0 8041 FBC0 8042");
        key(three, "0041 0042 0043 0041 0042 0043", 1, false, "1000 1000");
        key(three, "0041 0041 0042 0043", 1, false, "FBC0 8041 1000");
        Bench ends = new Bench().lines(4, "0000;[.1000.0000.0000]", "0000 0000;[.1001.0000.0000]", "10FFFF 10FFFF 10FFFF;[.1002.0000.0000]").sealed();
        key(ends, "FFFF 10FFFF 10FFFF", 1, false, "FBC1 FFFF FBE1 FFFF FBE1 FFFF");
        key(ends, "10FFFF 10FFFF FFFF", 1, false, "FBE1 FFFF FBE1 FFFF FBC1 FFFF");
        key(ends, "0000", 1, false, "1000");
        key(ends, "0000 0000", 1, false, "1001");
        key(ends, "0000 0000 0000", 1, false, "1001 1000");
        key(ends, "10FFFF 10FFFF 10FFFF 10FFFF", 1, false, "1002 FBE1 FFFF");
        Bench fourth = new Bench().lines(4, "0060 0042 0043;[.1000.0000.0000]").sealed();
        key(fourth, "0040 0042 0043 000F", 1, false, "FBC0 8040 FBC0 8042 FBC0 8043 FBC0 800F");
        key(fourth, "0060 0042 0043 000F", 1, false, "1000 FBC0 800F");
        Bench one = new Bench().lines(4, "0041;[.1000.0000.0000]", "0041 0001;[.1001.0000.0000]", "0001;[.1002.0000.0000]").sealed();
        key(one, "0041", 1, false, "1000");
        key(one, "0041 0001", 1, false, "1001");
        key(one, "0001 0041", 1, false, "1002 1000");
        Bench last = new Bench().lines(0, "0301;Mn;230;;;;", "0323;Mn;220;;;;").lines(4, "0041;[.1000.0000.0000]", "0041 0301;[.1001.0000.0000]").sealed();
        key(last, "0041 0323 0301", 1, false, "1001 FBC0 8323");
        Bench marks = new Bench().lines(0, "0301;Mn;230;;;;", "0323;Mn;220;;;;", "0331;Mn;220;;;;", "0327;Mn;1;;;;", "0345;Mn;254;;;;");
        marks.lines(4, "0041;[.1000.0000.0000]", "0041 0323;[.1001.0000.0000]", "0041 0301;[.1002.0000.0000]", "0041 0323 0301;[.1003.0000.0000]",
            "0041 0345;[.1004.0000.0000]", "0041 0327;[.1005.0000.0000]", "0301;[.2001.0000.0000]", "0323;[.2002.0000.0000]",
            "0331;[.2003.0000.0000]", "0327;[.2004.0000.0000]", "0345;[.2005.0000.0000]").sealed();
        key(marks, "0041 0331 0323", 1, false, "1000 2003 2002");
        key(marks, "0041 0331 0301", 1, false, "1002 2003");
        key(marks, "0041 0331 0301 0345", 1, false, "1002 2003 2005");
        key(marks, "0041 0323 0331 0301", 1, false, "1003 2003");
        key(marks, "0041 0323 0323 0301", 1, false, "1003 2002");
        key(marks, "0041 0323 0301 0301", 1, false, "1003 2001");
        key(marks, "0041 0345", 1, false, "1004");
        key(marks, "0041 0331 0345", 1, false, "1004 2003");
        key(marks, "0041 0327", 1, false, "1005");
        key(marks, "0041 0331 0042 0301", 1, false, "1000 2003 FBC0 8042 2001");
        passedOver();
    }

    /** What was passed over keeps its classes when it is looked at in its turn. */
    private static void passedOver() {
        Bench b = new Bench().lines(0, "0301;Mn;230;;;;", "0323;Mn;220;;;;", "0331;Mn;220;;;;", "0327;Mn;202;;;;");
        b.lines(4, "0041;[.1000.0000.0000]", "0041 0301;[.1001.0000.0000]", "0327;[.2000.0000.0000]", "0327 0331;[.2001.0000.0000]",
            "0323;[.2002.0000.0000]", "0331;[.2003.0000.0000]").sealed();
        key(b, "0041 0327 0323 0331 0301", 1, false, "1001 2000 2002 2003");
        key(b, "0041 0327 0331 0323 0301", 1, false, "1001 2001 2002");
        key(b, "0041 0327 0323 0301", 1, false, "1001 2000 2002");
    }

    private static void contractions() {
        Bench b = rows().lines(4, "0041 0042;[.2000.0020.0008]", "0041 0042 0043;[.2100.0020.0008]", "0042 0043 0044;[.2200.0020.0008]");
        b.sealed();
        key(b, "0041 0042", 1, false, "2000");
        key(b, "0041 0042 0043", 1, false, "2100");
        key(b, "0041 0041 0042", 1, false, "1000 2000");
        key(b, "0042 0043", 1, false, "1100 FBC0 8043");
        key(b, "0042 0043 0044", 1, false, "2200");
        key(b, "0043 0044", 1, false, "FBC0 8043 FBC0 8044");
        key(b, "0000 0041", 1, false, "1000");
    }

    private static void gaps() {
        Bench b = rows().lines(4, "0041 0301;[.3000.0020.0008]", "0041 0327 0301;[.3100.0020.0008]", "0327;[.0000.0030.0002]");
        b.lines(4, "0041 0327;[.3200.0020.0008]", "0302;[.0000.0026.0002]", "0323 0301;[.0000.00AA.0002]").sealed();
        key(b, "00C1", 1, false, "3000");
        key(b, "0041 0323 0301", 2, false, "3000 0000 0020 002D");
        key(b, "0041 0302 0301", 2, false, "1000 0000 0020 0026 0024");
        key(b, "0041 0327 0323 0301", 2, false, "3100 0000 0020 002D");
        key(b, "0041 0323 0323 0301", 2, false, "3000 0000 0020 002D 002D");
        key(b, "0041 0042 0301", 1, false, "1000 1100");
        key(b, "0041 0323 0302 0301", 2, false, "1000 0000 0020 002D 0026 0024");
        key(b, "0042 0323 0301", 2, false, "1100 0000 0020 00AA");
        key(b, "0041 0323 0301 0301", 2, false, "3000 0000 0020 00AA");
        Bench low = rows().lines(0, "0338;Mn;1;;;;").lines(4, "0041 0301;[.3000.0020.0008]", "0338;[.0000.0040.0002]");
        low.lines(4, "0327 0302;[.0000.0050.0002]", "0327;[.0000.0030.0002]", "0302;[.0000.0026.0002]").sealed();
        key(low, "0041 0338 0301", 2, false, "3000 0000 0020 0040");
        key(low, "0041 0327 0323 0301 0302", 2, false, "3000 0000 0020 0050 002D");
        Bench none = rows().lines(4, "0050 0301;[.3000.0020.0008]").sealed();
        key(none, "0050 0323 0301", 1, false, "FBC0 8050");
    }

    private static void shifted() {
        Bench b = rows().sealed();
        key(b, "0041 0020 0042", 4, true, "1000 1100 0000 0020 0020 0000 0008 0008 0000 FFFF 0209 FFFF");
        key(b, "0041 0020 0042", 3, true, "1000 1100 0000 0020 0020 0000 0008 0008");
        key(b, "0041 0020 0042", 1, true, "1000 1100");
        key(b, "0020 0301 0301 0041 0301", 4, true, "1000 0000 0020 0024 0000 0008 0002 0000 0209 FFFF FFFF");
        key(b, "0020 0000 0301 0041", 4, true, "1000 0000 0020 0000 0008 0000 0209 FFFF");
        key(b, "0301", 4, true, "0000 0024 0000 0002 0000 FFFF");
        key(b, "0000", 4, true, "0000 0000 0000");
        key(b, "0009 0020 0009 002D", 4, true, "0000 0000 0005 0000 FFFF 0209 020D");
        key(b, "0020 0301 0041 0301 0301", 2, true, "1000 0000 0020 0024 0024");
        key(b, "0020", 4, true, "0000 0000 0000 0209");
        key(b, "0301", 4, true, "0000 0024 0000 0002 0000 FFFF");
        b.put(0, "0020").put(1, "0301");
        Bench.due("no text is behind another", b.atlas.compare(0, 1, 2, true), -1);
        Bench.due("turned", b.atlas.compare(1, 0, 2, true), 1);
        Bench zero = rows().lines(4, "0050;[*0000.0010.0002]").sealed();
        key(zero, "0050 0301", 4, true, "0000 0010 0024 0000 0002 0002 0000 FFFF FFFF");
        key(zero, "0020 0050", 4, true, "0000 0000 0000 0209");
    }

    private static void order(Bench b, String one, String two, int strength, boolean shifted, int want) {
        b.put(0, one).put(1, two);
        String what = "compare " + strength + " " + shifted + " of " + one + " and " + two;
        Bench.dueOf(what, () -> b.atlas.compare(0, 1, strength, shifted), want);
        Bench.dueOf(what + ", turned", () -> b.atlas.compare(1, 0, strength, shifted), -want);
        Bench.due(what + ": result stays", b.atlas.count(1), 0);
    }

    private static void compare() {
        Bench b = rows().lines(4, "0061;[.1000.0020.0002]", "0053;[.8000.0020.0002]").sealed();
        order(b, "0041", "0042", 1, false, -1);
        order(b, "0041", "0041 0041", 1, false, -1);
        order(b, "0053", "0042", 1, false, 1);
        order(b, "0041 0301", "0041", 1, false, 0);
        order(b, "0041 0301", "0041", 2, false, 1);
        order(b, "0041 0301", "0041 0041", 3, false, -1);
        order(b, "0061", "0041", 2, false, 0);
        order(b, "0061", "0041", 3, false, -1);
        order(b, "0061 0301", "0041", 3, false, 1);
        order(b, "0041 0020 0042", "0041 0042", 3, true, 0);
        order(b, "0041 0020 0042", "0041 0042", 4, true, -1);
        order(b, "0041 0020 0042", "0041 0042", 4, false, -1);
        order(b, "0041 0020", "0041 002D", 4, true, -1);
        order(b, "0041 0000", "0041", 4, true, 0);
        order(b, "", "0041", 1, false, -1);
        order(b, "0041", "0041", 4, true, 0);
        b.put(2, "0042");
        Bench.due("with itself", b.atlas.compare(2, 2, 4, true), 0);
    }

    private static void limits() {
        String many = "[.1000.0020.0008]".repeat(17);
        Bench b = new Bench().lines(4, "0041;" + many + "[.1000.0020.0008]", "0042;" + many + "[.1000.0020.0009]", "0043;[.1000.0020.0008]");
        b.lines(0, "0044;Lu;0;0041 0041;;;").sealed();
        TextAtlas x = b.atlas;
        b.grow(0, "0041", 10);
        Bench.due("36864 bytes", x.key(0, 1, false), 36864);
        Bench.bounds("73730 bytes", () -> x.key(0, 2, false));
        Bench.due("result stays", x.count(1), 36864);
        x.part(1, 0, 0, 1023);
        x.add(1, 0x42);
        Bench.due("keys of any length", x.compare(0, 1, 3, false), -1);
        Bench.due("keys of any length, turned", x.compare(1, 0, 4, true), 1);
        Bench.due("keys of any length, the same", x.compare(0, 1, 2, false), 0);
        x.part(2, 0, 0, 606);
        for (int i = 0; i < 14; i++) {
            x.add(2, 0x43);
        }
        Bench.due("606 and 14: 10922 weights", x.key(2, 2, false), 4 * 10922 + 2);
        x.part(2, 0, 0, 910);
        Bench.due("910: 16380 weights twice and one between", x.key(2, 2, false), 65522);
        x.add(2, 0x43);
        x.add(2, 0x43);
        x.add(2, 0x43);
        Bench.due("65534 bytes", x.key(2, 2, false), 65534);
        x.add(2, 0x43);
        Bench.bounds("65538 bytes", () -> x.key(2, 2, false));
        Bench.due("32768 bytes", x.key(2, 1, false), 32768);
        x.part(2, 0, 0, 796);
        x.join(2, 0, 2, 0);
        for (int i = 0; i < 8; i++) {
            x.add(2, 0x43);
        }
        Bench.due("65536 bytes", x.key(2, 1, false), 65536);
        Bench.due("the last ones", Long.toHexString(x.word(65534)), "1000000000000000");
        x.add(2, 0x43);
        Bench.bounds("65538 bytes of one level", () -> x.key(2, 1, false));
        Bench.due("result stays", x.count(1), 65536);
        x.part(3, 0, 0, 1000);
        x.part(4, 3, 0, 999);
        x.add(3, 0x44);
        for (int i = 0; i < 2; i++) {
            x.add(4, 0x44);
        }
        Bench.due("1002 in NFD, 1003 in NFD", x.compare(3, 4, 1, false), -1);
        b.write(6, "D".repeat(1001));
        Bench.bounds("NFD has 2002", () -> x.key(6, 1, false));
        Bench.bounds("NFD has 2002, t", () -> x.compare(6, 0, 1, false));
        Bench.bounds("NFD has 2002, u", () -> x.compare(0, 6, 1, false));
        x.part(6, 6, 0, 1000);
        Bench.due("NFD has 2000", x.compare(6, 0, 1, false), 1);
    }
}
