import java.nio.charset.StandardCharsets;
import java.util.Arrays;

/** The full TAPE, the full TEXT and the full RESULT: the last that has room, the first that has none. */
final class FullTest {
    public static void main(String[] args) {
        tape();
        tapeAsText();
        tapeAsLine();
        textAndAdd();
        partAndPoint();
        normalAndIs();
        join();
        change();
        conditions();
        matchFold();
        matchSteps();
        breaks();
        collation();
        bytes();
        for (int strength = 1; strength <= 4; strength++) {
            result(strength);
        }
        keysBeyondTheResult();
        lines();
        Bench.finish();
    }

    /** 4096 bytes, which are no multiple of 20. */
    private static Bench filled(byte[] bytes) {
        Bench b = new Bench().tape(Arrays.copyOf(bytes, 4076));
        byte[] last = Arrays.copyOfRange(bytes, 4076, 4096);
        return b.tape(last);
    }

    private static Bench filled(String latin) {
        return filled(latin.getBytes(StandardCharsets.ISO_8859_1));
    }

    private static Bench full() {
        Bench b = new Bench().lines(0, "0042;Lu;0;0041 0301;;;", "0301;Mn;230;;;;", "0043;Lu;0;<a>0041 0041;;;");
        return b.sealed().write(0, "x".repeat(2000));
    }

    private static void tape() {
        TextAtlas x = new TextAtlas();
        for (int i = 1; i <= 204; i++) {
            Bench.due("feed " + i, x.feed(i, i, i, i, i), 20 * i);
        }
        Bench.bounds("feed to 4100", () -> x.feed(0, 0, 0, 0, 0));
        Bench.due("tape stays", x.count(0), 4080);
        Bench.due("end at 4077", x.end(4077), 4077);
        Bench.bounds("feed to 4097", () -> x.feed(0, 0, 0, 0, 0));
        Bench.due("tape stays", x.count(0), 4077);
        Bench.due("end at 4076", x.end(4076), 4076);
        Bench.due("feed to 4096", x.feed(0, 0, 0, 0, 0), 4096);
        Bench.bounds("feed to 4116", () -> x.feed(0, 0, 0, 0, 0));
        Bench.argument("end beyond the full tape", () -> x.end(4097));
        Bench.due("end of the full tape", x.end(4096), 4096);
        Bench.due("full", x.count(0), 4096);
        Bench.due("emptied", x.end(0), 0);
        Bench.due("feed again", x.feed(0, 0, 0, 0, 0), 20);
    }

    private static void tapeAsText() {
        Bench four = filled("\u00f4\u008f\u00bf\u00bf".repeat(1024));
        Bench.bounds("feed to the full tape", () -> four.atlas.feed(0, 0, 0, 0, 0));
        Bench.due("text of the full tape", four.atlas.text(0), 1024);
        Bench.due("first", four.atlas.point(0, 0), 0x10FFFF);
        Bench.due("last", four.atlas.point(0, 1023), 0x10FFFF);
        Bench.due("tape is empty", four.atlas.count(0), 0);
        Bench one = filled("x".repeat(4096)).put(0, "41");
        Bench.bounds("4096 points", () -> one.atlas.text(0));
        Bench.due("tape is empty", one.atlas.count(0), 0);
        Bench.due("text stays", one.show(0), "0041");
        Bench bad = filled("x".repeat(4095) + "\u00c2").put(0, "41");
        Bench.unsupported("the last byte is half a point", () -> bad.atlas.text(0));
        Bench.due("tape is empty", bad.atlas.count(0), 0);
        Bench.due("text stays", bad.show(0), "0041");
        Bench.due("feed again", bad.atlas.feed(0, 0, 0, 0, 0), 20);
    }

    private static void tapeAsLine() {
        Bench.due("line with a remark to the end", filled("0041;Lu;0;;;;#" + "x".repeat(4082)).atlas.line(0), 1);
        Bench.due("line behind blanks", filled(" ".repeat(4083) + "0041;Lu;0;;;;").atlas.line(0), 1);
        Bench.due("blanks between codes", filled("0041;C;0042" + "\t".repeat(4081) + "0043").atlas.line(2), 1);
        Bench bad = filled("0041;Lu;0;;;;#" + "x".repeat(4081) + "\u007f");
        Bench.unsupported("the last byte is 127", () -> bad.atlas.line(0));
        Bench.due("tape is empty", bad.atlas.count(0), 0);
        Bench.unsupported("only ;", () -> filled(";".repeat(4096)).atlas.line(0));
        Bench.unsupported("only elements", () -> filled(("0041;" + "[.0001.0002.0003]".repeat(241)).substring(0, 4096)).atlas.line(4));
    }

    private static void textAndAdd() {
        Bench b = new Bench().tape("x".repeat(2000));
        Bench.due("text of 2000", b.atlas.text(0), 2000);
        Bench.bounds("add to 2001", () -> b.atlas.add(0, 0x41));
        Bench.due("size stays", b.atlas.size(0), 2000);
        Bench.due("last stays", b.atlas.point(0, 1999), 0x78);
        Bench.argument("no point, to 2001", () -> b.atlas.add(0, 0x110000));
        b.atlas.part(0, 0, 0, 1999);
        Bench.due("add to 2000", b.atlas.add(0, 0x41), 2000);
        Bench.due("last", b.atlas.point(0, 1999), 0x41);
        b.tape("x".repeat(2001));
        Bench.bounds("text of 2001", () -> b.atlas.text(0));
        Bench.due("tape is empty", b.atlas.count(0), 0);
        Bench.due("last stays", b.atlas.point(0, 1999), 0x41);
        Bench two = new Bench().write(0, "\u00e9".repeat(2000));
        Bench.due("points count, not bytes", two.atlas.size(0), 2000);
        two.tape("\u00c3\u00a9".repeat(2001));
        Bench.bounds("2001 points of two bytes", () -> two.atlas.text(0));
        Bench both = new Bench().tape("x".repeat(2001) + "\u00ff");
        Bench.unsupported("no UTF-8 before too many points", () -> both.atlas.text(0));
    }

    private static void partAndPoint() {
        Bench b = full();
        TextAtlas x = b.atlas;
        Bench.due("part of all", x.part(1, 0, 0, 2000), 2000);
        Bench.due("part of the last", x.part(1, 0, 1999, 2000), 1);
        Bench.due("part behind the last", x.part(1, 0, 2000, 2000), 0);
        Bench.argument("part to 2001", () -> x.part(1, 0, 0, 2001));
        Bench.argument("part from 2001", () -> x.part(1, 0, 2001, 2001));
        Bench.due("part of itself", x.part(0, 0, 0, 2000), 2000);
        Bench.due("point 1999", x.point(0, 1999), 0x78);
        Bench.bounds("point 2000", () -> x.point(0, 2000));
        Bench.due("size", x.size(0), 2000);
    }

    /** 1999 points that are 2000 in NFD, then 2000 that are 2001; B has two, C has two if compatible. */
    private static void normalAndIs() {
        Bench b = full();
        TextAtlas x = b.atlas;
        for (int form = 0; form < 4; form++) {
            int f = form;
            Bench.due("2000 stay, form " + f, x.normal(1, 0, f), 2000);
            Bench.due("2000 are in form " + f, x.is(0, f), true);
            x.part(2, 0, 0, 1998);
            x.add(2, 0x42);
            Bench.due("2000 on the way, form " + f, x.normal(1, 2, f), f < 2 ? 2000 : 1999);
            Bench.due("is, with 2000 on the way, form " + f, x.is(2, f), f >= 2);
            x.part(2, 0, 0, 1999);
            x.add(2, 0x42);
            x.part(1, 0, 0, 7);
            Bench.bounds("2001 on the way, form " + f, () -> x.normal(1, 2, f));
            Bench.due("text stays", x.size(1), 7);
            Bench.bounds("2001 on the way, onto itself, form " + f, () -> x.normal(2, 2, f));
            Bench.due("text stays", x.size(2), 2000);
            Bench.due("the last one stays", x.point(2, 1999), 0x42);
            Bench.due("is not, with 2001 on the way, form " + f, x.is(2, f), false);
            x.part(2, 0, 0, 1999);
            x.add(2, 0x43);
            boolean compatible = f == 1 || f == 3;
            Bench.dueOf("compatible, form " + f, () -> x.normal(1, 2, f), compatible ? "IndexOutOfBoundsException" : 2000);
            Bench.due("is, compatible, form " + f, x.is(2, f), !compatible);
        }
    }

    private static void join() {
        Bench b = full();
        TextAtlas x = b.atlas;
        for (int form = 0; form < 4; form++) {
            int f = form;
            x.part(1, 0, 0, 0);
            Bench.due("full and nothing, form " + f, x.join(2, 0, 1, f), 2000);
            Bench.due("nothing and full, form " + f, x.join(2, 1, 0, f), 2000);
            x.add(1, 0x41);
            Bench.bounds("full and one, form " + f, () -> x.join(1, 0, 1, f));
            Bench.bounds("one and full, form " + f, () -> x.join(1, 1, 0, f));
            Bench.due("text stays", b.show(1), "0041");
            x.part(3, 0, 0, 1999);
            Bench.due("1999 and one, form " + f, x.join(2, 3, 1, f), 2000);
            Bench.due("one and 1999, form " + f, x.join(2, 1, 3, f), 2000);
            b.put(1, "42");
            Bench.bounds("1999 and one of two, form " + f, () -> x.join(2, 3, 1, f));
            Bench.bounds("one of two and 1999, form " + f, () -> x.join(2, 1, 3, f));
            x.part(3, 0, 0, 1000);
            Bench.due("1000 twice, form " + f, x.join(3, 3, 3, f), 2000);
            x.part(3, 0, 0, 1001);
            Bench.bounds("1001 twice, form " + f, () -> x.join(3, 3, 3, f));
            Bench.due("text stays", x.size(3), 1001);
        }
    }

    /** y becomes two, z none; each point is a word of its own. */
    private static void change() {
        Bench b = new Bench().lines(1, "0079;0059 0059;0059 0059;0059 0059;", "007A;;;;").lines(2, "0079;F;0059 0059");
        b.lines(3, "0078..007A;Cased").sealed().write(0, "x".repeat(2000));
        TextAtlas x = b.atlas;
        for (int kind = 0; kind < 4; kind++) {
            int k = kind;
            Bench.due("2000 stay, kind " + k, x.change(1, 0, k, 0), 2000);
            x.part(1, 0, 0, 1998);
            x.add(1, 0x79);
            Bench.due("to 2000, kind " + k, x.change(2, 1, k, 0), 2000);
            x.add(1, 0x7A);
            Bench.dueOf("one goes, kind " + k, () -> x.change(2, 1, k, 0), k == 3 ? "IndexOutOfBoundsException" : 2000);
            x.part(1, 0, 0, 1999);
            x.add(1, 0x79);
            x.part(2, 0, 0, 5);
            Bench.bounds("to 2001, kind " + k, () -> x.change(2, 1, k, 0));
            Bench.due("text stays", x.size(2), 5);
            Bench.bounds("to 2001, onto itself, kind " + k, () -> x.change(1, 1, k, 0));
            Bench.due("text stays", x.size(1), 2000);
            Bench.due("the last one stays", x.point(1, 1999), 0x79);
        }
    }

    /** What a condition looks for is at the other end of 2000, or not there at all; x may always stand between. */
    private static void conditions() {
        Bench b = new Bench().lines(0, "0078;Mn;1;;;;", "0307;Mn;230;;;;", "0041;Lu;0;;;;").lines(3, "0078;Case_Ignorable", "0069;Soft_Dotted");
        b.lines(1, "0053;0001;0002;0003;Final_Sigma", "0307;0001;0002;0003;After_Soft_Dotted", "004D;0001;0002;0003;More_Above",
            "0042;0001;0002;0003;Before_Dot", "004E;0001;0002;0003;Not_Before_Dot", "0307;0001;0002;0003;After_I").sealed();
        b.write(0, "x".repeat(2000));
        behindAll(b, "0041", "0053", true);
        behindAll(b, "0078", "0053", false);
        behindAll(b, "0069", "0307", true);
        behindAll(b, "0049", "0307", true);
        behindAll(b, "0078", "0307", false);
        beforeAll(b, "004D", "0307", true);
        beforeAll(b, "004D", "0078", false);
        beforeAll(b, "0042", "0307", true);
        beforeAll(b, "0042", "0078", false);
        beforeAll(b, "004E", "0307", false);
        beforeAll(b, "004E", "0078", true);
        b.put(2, "0041 0053").atlas.part(1, 0, 0, 1998);
        b.atlas.join(3, 2, 1, 0);
        b.atlas.change(4, 3, 0, 0);
        Bench.due("Final_Sigma with nothing behind", b.atlas.point(4, 1), 1);
    }

    private static void behindAll(Bench b, String first, String last, boolean holds) {
        between(b, first, last);
        b.atlas.change(4, 3, 0, 0);
        Bench.due(last + " behind " + first, b.atlas.point(4, 1999), holds ? 1 : Integer.parseInt(last, 16));
    }

    private static void beforeAll(Bench b, String first, String last, boolean holds) {
        between(b, first, last);
        b.atlas.change(4, 3, 1, 0);
        Bench.due(first + " before " + last, b.atlas.point(4, 0), holds ? 3 : Integer.parseInt(first, 16));
    }

    private static void between(Bench b, String first, String last) {
        b.put(1, first).put(2, last).atlas.part(3, 0, 0, 1998);
        b.atlas.join(3, 1, 3, 0);
        Bench.due("length", b.atlas.join(3, 3, 2, 0), 2000);
    }

    private static void matchFold() {
        Bench b = new Bench().lines(2, "0079;F;0059 0059").sealed().write(0, "x".repeat(2000));
        TextAtlas x = b.atlas;
        for (int kind = 0; kind < 3; kind++) {
            int k = kind;
            Bench.due("2000 and 2000, kind " + k, x.match(0, 0, k), true);
            x.part(1, 0, 0, 1998);
            x.add(1, 0x79);
            x.part(2, 0, 0, 1998);
            x.add(2, 0x59);
            x.add(2, 0x59);
            Bench.due("2000 on the way, kind " + k, x.match(1, 2, k), true);
            x.part(1, 0, 0, 1999);
            x.add(1, 0x79);
            Bench.bounds("2001 on the way, kind " + k, () -> x.match(1, 3, k));
            Bench.bounds("2001 on the way of the second, kind " + k, () -> x.match(3, 1, k));
            Bench.due("text stays", x.size(1), 2000);
        }
    }

    /** For each step of kinds 1 and 2 a point that becomes two in this step and not before. */
    private static void matchSteps() {
        step("NFD", "0051", 1, "0051;Lu;0;0041 0041;;;");
        step("fold", "0052", 1);
        step("NFD behind fold", "0053", 1, "0054;Lu;0;0041 0041;;;");
        step("NFKD behind fold", "0055", 2, "0055;Lu;0;<a>0041 0041;;;");
        step("fold behind NFKD", "0056", 2, "0056;Lu;0;<a>0052;;;");
        step("the last NFKD", "0057", 2, "0057;Lu;0;<a>0053;;;", "0054;Lu;0;<a>0041 0041;;;");
    }

    private static void step(String what, String point, int first, String... facts) {
        Bench b = new Bench().lines(0, facts).lines(2, "0052;F;0041 0041", "0053;C;0054").sealed();
        TextAtlas x = b.atlas;
        b.write(0, "x".repeat(2000)).put(1, point).put(2, "41 41");
        x.part(3, 0, 0, 1998);
        x.part(4, 0, 0, 1999);
        x.join(5, 3, 2, 0);
        x.add(3, Integer.parseInt(point, 16));
        x.add(4, Integer.parseInt(point, 16));
        for (int kind = 1; kind < 3; kind++) {
            int k = kind;
            boolean grows = k >= first;
            Bench.due(what + ": becomes two, kind " + k, x.match(1, 2, k), grows);
            Bench.due(what + ": 2000, kind " + k, x.match(3, 5, k), grows);
            Bench.dueOf(what + ": 2001, kind " + k, () -> x.match(4, 5, k), grows ? "IndexOutOfBoundsException" : "false");
            Bench.dueOf(what + ": 2001 of the second, kind " + k, () -> x.match(5, 4, k), grows ? "IndexOutOfBoundsException" : "false");
        }
    }

    private static void breaks() {
        Bench b = new Bench().lines(3, "0078;GCB=Extend", "0078;WB=Extend", "0079;GCB=Regional_Indicator", "0079;WB=Regional_Indicator");
        b.sealed().write(0, "x".repeat(2000)).write(1, "y".repeat(2000));
        TextAtlas x = b.atlas;
        for (int kind = 0; kind < 2; kind++) {
            int k = kind;
            Bench.due("one piece", x.next(0, k, 0, false), 2000);
            Bench.due("one piece, back", x.next(0, k, 2000, true), 0);
            Bench.due("within", x.edge(0, k, 1999), false);
            Bench.due("at the end", x.edge(0, k, 2000), true);
            Bench.due("behind the end", x.next(0, k, 2000, false), -1);
            Bench.argument("edge 2001", () -> x.edge(0, k, 2001));
            Bench.argument("next 2001", () -> x.next(0, k, 2001, true));
            Bench.due("an odd number before", x.edge(1, k, 1999), false);
            Bench.due("an even number before", x.edge(1, k, 1998), true);
            Bench.due("the last two", x.next(1, k, 2000, true), 1998);
        }
    }

    /** The one that goes with S is the last of 2000. */
    private static void collation() {
        Bench b = new Bench().lines(0, "0078;Mn;220;;;;", "0301;Mn;230;;;;", "0042;Lu;0;0041 0301;;;");
        b.lines(4, "0041;[.1000.0020.0002]", "0041 0301;[.2000.0020.0002]", "0078;[.0000.0021.0002]").sealed().write(0, "x".repeat(2000));
        TextAtlas x = b.atlas;
        x.part(1, 0, 0, 1998);
        b.put(2, "0042");
        Bench.due("A, 1998 x, 0301", x.join(3, 2, 1, 0), 2000);
        Bench.due("the last is 0301", x.point(3, 1999), 0x301);
        Bench.due("key 1", x.key(3, 1, false), 2);
        Bench.due("the last went with the first", b.result(), "2000");
        Bench.due("key 3", x.key(3, 3, false), 2 + 2 + 2 * 1999 + 2 + 2 * 1999);
        Bench.due("key 4", x.key(3, 4, true), 2 + 2 + 2 * 1999 + 2 + 2 * 1999 + 2 + 2 * 1999);
        Bench.due("compare", x.compare(3, 0, 1, false), 1);
        Bench.due("compare with itself", x.compare(3, 3, 4, true), 0);
        x.part(1, 0, 0, 1999);
        x.add(1, 0x42);
        x.bytes(2);
        Bench.bounds("2001 on the way, key", () -> x.key(1, 1, false));
        Bench.due("result stays", b.result(), "42");
        Bench.bounds("2001 on the way, compare", () -> x.compare(1, 0, 1, false));
        Bench.bounds("2001 on the way, compare with it", () -> x.compare(0, 1, 1, false));
    }

    private static void bytes() {
        Bench b = new Bench().sealed().write(0, new String(Character.toChars(0x10FFFF)).repeat(1000));
        Bench.due("2000", b.atlas.join(0, 0, 0, 0), 2000);
        Bench.due("8000 bytes", b.atlas.bytes(0), 8000);
        Bench.due("result", b.atlas.count(1), 8000);
        Bench.due("the last byte", b.atlas.word(7999), 0xBFL << 56);
        Bench.bounds("no more", () -> b.atlas.word(8000));
    }

    /** 65536 bytes at each strength: x has 18 weights of the first level, y one, and z one of the fourth alone. */
    private static void result(int strength) {
        boolean shifted = strength == 4;
        Bench b = new Bench().lines(4, "0078;" + "[.0101.0000.0000]".repeat(18), "0079;[.0102.0000.0000]", "007A;[*0103.0000.0000]");
        int many = shifted ? 910 : 1820;
        b.sealed().write(0, "x".repeat(many));
        TextAtlas x = b.atlas;
        String tail = new String[] {"yyyyyyyy", "yyyyyyy", "yyyyyy", "yyz"}[strength - 1];
        for (char c : tail.toCharArray()) {
            x.add(0, c);
        }
        Bench.due("65536 bytes, strength " + strength, x.key(0, strength, shifted), 65536);
        Bench.due("result", x.count(1), 65536);
        Bench.due("first", Long.toHexString(x.word(0)), "101010101010101");
        String[] last = {"0102", "0000", "0000", "0103"};
        Bench.due("last word", Long.toHexString(x.word(65534) >>> 48), last[strength - 1].replaceAll("^0+(?=.)", ""));
        Bench.due("last byte", x.word(65535), (Integer.parseInt(last[strength - 1], 16) & 0xFFL) << 56);
        Bench.bounds("no more", () -> x.word(65536));
        x.add(0, 'z');
        String before = Long.toHexString(x.word(65528));
        Bench.bounds("65538 bytes, strength " + strength, () -> x.key(0, strength, shifted));
        Bench.due("result stays", x.count(1), 65536);
        Bench.due("its end stays", Long.toHexString(x.word(65528)), before);
        Bench.due("its beginning stays", Long.toHexString(x.word(0)), "101010101010101");
        if (strength > 1) {
            Bench.due("one strength less has room", x.key(0, strength - 1, shifted) < 65536, shifted);
        }
    }

    private static void keysBeyondTheResult() {
        Bench b = new Bench().lines(4, "0078;" + "[.0101.0020.0002]".repeat(18), "0079;[.0102.0020.0002]", "007A;[.0102.0020.0003]");
        b.sealed().write(0, "x".repeat(1999));
        TextAtlas x = b.atlas;
        x.part(1, 0, 0, 1999);
        x.add(0, 'y');
        x.add(1, 'z');
        Bench.bounds("no key", () -> x.key(0, 1, false));
        Bench.due("alike in the first", x.compare(0, 1, 1, false), 0);
        Bench.due("alike in the second", x.compare(0, 1, 2, true), 0);
        Bench.due("not in the very last weight", x.compare(0, 1, 3, false), -1);
        Bench.due("turned", x.compare(1, 0, 3, true), 1);
        Bench.due("result stays", x.count(1), 0);
        x.part(0, 0, 0, 1999);
        x.add(0, 'x');
        for (int strength = 1; strength <= 4; strength++) {
            Bench.due("2000 times 18 elements", x.compare(0, 0, strength, true), 0);
            Bench.due("and other ones", x.compare(0, 1, strength, false), -1);
        }
        Bench zeros = new Bench().lines(4, "0078;" + "[.0101.0000.0000]".repeat(18)).sealed().write(0, "x".repeat(2000));
        zeros.atlas.part(1, 0, 0, 1999);
        Bench.due("nothing but zeros at the second level", zeros.atlas.compare(0, 0, 2, false), 0);
        Bench.due("and at the third", zeros.atlas.compare(0, 1, 3, false), 1);
    }

    /** As many lines as 512 calls can bring: of two calls each, and at last seal and a look. */
    private static void lines() {
        Bench ranges = new Bench();
        for (int i = 0; i < 255; i++) {
            ranges.shortLine(3, String.format("%04X..%04X;Cased", 0x1000 + 8 * i, 0x1003 + 8 * i));
        }
        ranges.atlas.seal();
        Bench.due("the last range", ranges.atlas.about(0x1003 + 8 * 254, 6), 4);
        Bench specials = new Bench();
        for (int i = 0; i < 254; i++) {
            specials.shortLine(1, String.format("0041;%04X;;;", 0x1000 + i));
        }
        specials.atlas.seal();
        specials.atlas.add(0, 0x41);
        specials.atlas.change(0, 0, 0, 0);
        Bench.due("the last one without conditions", specials.atlas.point(0, 0), 0x10FD);
        Bench folds = new Bench();
        for (int i = 0; i < 255; i++) {
            folds.shortLine(2, String.format("%04X;F;%04X", 0x2000 + i, 0x1000 + i));
        }
        Bench.dueOf("line 256 with call 512", () -> folds.shortLine(2, "0041;F;0042"), 1);
        Bench facts = new Bench();
        for (int i = 0; i < 254; i++) {
            facts.shortLine(0, String.format("%04X;Lu;0;%04X;;;", 0x2000 + i, 0x2001 + i));
        }
        facts.atlas.seal();
        facts.atlas.add(0, 0x2000);
        facts.atlas.normal(0, 0, 0);
        Bench.due("a chain of 254", facts.atlas.point(0, 0), 0x20FE);
        Bench forties = new Bench();
        for (String line : new String[] {"0041;Lu;0;0042 0042;;;", "0042;Lu;0;0043 0043;;;", "0043;Lu;0;0044 0044;;;", "0044;Lu;0;0045 0045;;;",
            "0045;Lu;0;0046 0046;;;", "0050;Lu;0;0041 0043;;;"}) {
            forties.shortLine(0, line);
        }
        for (int i = 0; i < 245; i++) {
            forties.shortLine(0, String.format("%04X;Lu;0;0050;;;", 0x2000 + i));
        }
        Bench.dueOf("245 decompositions of 40", () -> forties.atlas.seal(), 6);
        Bench.due("the last one", forties.atlas.about(0x2000 + 244, 4), 40);
        Bench.due("the last one, compatible", forties.atlas.about(0x2000 + 244, 5), 40);
    }
}
