/** Promises 1 (a new object), 2 (feed), 3 (end), 6 (reset) and 24 (count). */
final class TapeTest {
    public static void main(String[] args) {
        newObject();
        twoObjects();
        feedAndEnd();
        feedBytes();
        fullTape();
        reset();
        counts();
        Bench.finish();
    }

    private static void newObject() {
        TextAtlas x = new TextAtlas();
        for (int what = 0; what < 4; what++) {
            Bench.due("new count " + what, x.count(what), 0);
        }
        for (int t = 0; t < 8; t++) {
            Bench.due("new size " + t, x.size(t), 0);
        }
        Bench.bounds("new word", () -> x.word(0));
        Bench.state("new normal", () -> x.normal(0, 0, 0));
        Bench.due("seal without data", x.seal(), 0);
    }

    private static void feedAndEnd() {
        TextAtlas x = new TextAtlas();
        Bench.due("feed", x.feed(0x41424344, 0x45464748, 0x494A4B4C, 0x4D4E4F50, 0x51525354), 20);
        Bench.due("feed again", x.feed(0x61626364, 0, 0, 0, 0), 40);
        Bench.argument("end beyond", () -> x.end(41));
        Bench.argument("end below", () -> x.end(-1));
        Bench.due("tape stays", x.count(0), 40);
        Bench.due("end", x.end(22), 22);
        Bench.argument("what was cut is gone", () -> x.end(23));
        Bench.due("text", x.text(0), 22);
        Bench.due("first byte", x.point(0, 0), 0x41);
        Bench.due("last of the first feed", x.point(0, 19), 0x54);
        Bench.due("last byte", x.point(0, 21), 0x62);
        Bench.due("read tape is empty", x.count(0), 0);
        Bench.due("end of nothing", x.end(0), 0);
    }

    /** Nothing of one object is seen in another. */
    private static void twoObjects() {
        Bench one = new Bench();
        Bench two = new Bench();
        one.lines(0, "0041;Lu;9;;;;").lines(3, "0041;Cased").sealed().put(0, "41").tape("abc").atlas.bytes(0);
        for (int what = 0; what < 4; what++) {
            Bench.due("count " + what + " of the other", two.atlas.count(what), 0);
        }
        Bench.due("text of the other", two.atlas.size(0), 0);
        two.sealed();
        Bench.due("data of the other", two.atlas.about(0x41, 1), 0);
        two.put(0, "42 43").atlas.reset();
        Bench.due("text of the one", one.show(0), "0041");
        Bench.due("data of the one", one.atlas.about(0x41, 1), 9);
        Bench.due("tape of the one", one.atlas.count(0), 3);
        Bench.due("result of the one", one.result(), "41");
    }

    /** Every byte value at every place of the five ints comes to the tape as it is. */
    private static void feedBytes() {
        TextAtlas x = new TextAtlas();
        x.feed(0xC280DFBF, 0xE0A080ED, 0x9FBFEE80, 0x80EFBFBF, 0xF0908080);
        x.feed(0xF48FBFBF, 0x00010203, 0x7F7E7D7C, 0x00000000, Integer.MAX_VALUE);
        Bench.due("length", x.end(36), 36);
        Bench.due("points", x.text(0), 20);
        int[] due = {0x80, 0x7FF, 0x800, 0xD7FF, 0xE000, 0xFFFF, 0x10000, 0x10FFFF, 0, 1, 2, 3, 0x7F, 0x7E, 0x7D, 0x7C, 0, 0, 0, 0};
        for (int i = 0; i < due.length; i++) {
            Bench.due("point " + i, x.point(0, i), due[i]);
        }
        for (int place = 0; place < 20; place++) {
            int[] ints = new int[5];
            ints[place / 4] = 0x41 << 24 - 8 * (place % 4);
            TextAtlas y = new TextAtlas();
            y.feed(ints[0], ints[1], ints[2], ints[3], ints[4]);
            y.text(1);
            Bench.due("byte " + place, y.point(1, place), 0x41);
        }
        for (int value : new int[] {-1, Integer.MIN_VALUE, 0xFF, 0x80}) {
            TextAtlas y = new TextAtlas();
            Bench.due("feed of " + value, y.feed(value, value, value, value, value), 20);
            Bench.unsupported("text of " + value, () -> y.text(0));
        }
    }

    private static void fullTape() {
        TextAtlas x = new TextAtlas();
        for (int i = 1; i <= 204; i++) {
            Bench.due("feed " + i, x.feed(0, 0, 0, 0, 0), 20 * i);
        }
        Bench.bounds("feed to 4100", () -> x.feed(0, 0, 0, 0, 0));
        Bench.due("tape stays", x.count(0), 4080);
        x.end(4077);
        Bench.bounds("feed to 4097", () -> x.feed(0, 0, 0, 0, 0));
        x.end(4076);
        Bench.due("feed to 4096", x.feed(0, 0, 0, 0, 0), 4096);
        Bench.bounds("feed to 4116", () -> x.feed(0, 0, 0, 0, 0));
    }

    private static void reset() {
        Bench b = new Bench();
        TextAtlas x = b.atlas;
        Bench.due("reset of a new one", x.reset(), 0);
        b.lines(0, "0041;Lu;5;;;0061;").lines(1, "0041;0042;;;").lines(2, "0041;F;0043");
        b.lines(3, "0041..0043;GCB=LF", "0041;WB=CR", "0041;Cased").lines(4, "0041;[.0001.0002.0003]");
        b.sealed();
        b.put(0, "41 42").put(7, "43");
        x.bytes(0);
        b.tape("abc");
        Bench.due("reset of sealed ones", x.reset(), 1);
        Bench.due("tape stays", x.count(0), 3);
        Bench.due("result stays", b.result(), "4142");
        Bench.due("lines", x.count(2), 0);
        Bench.due("sealed", x.count(3), 0);
        Bench.due("text 0", x.size(0), 0);
        Bench.due("text 7", x.size(7), 0);
        Bench.state("not sealed", () -> x.about(0x41, 0));
        x.end(0);
        b.sealed();
        for (int what = 0; what < 8; what++) {
            int want = what == 0 ? 'C' * 256 + 'n' : what == 4 || what == 5 ? 1 : 0;
            Bench.due("untold " + what, x.about(0x41, what), want);
        }
        b.put(0, "41");
        x.change(1, 0, 0, 0);
        Bench.due("no case", b.show(1), "0041");
        x.change(1, 0, 3, 0);
        Bench.due("no fold", b.show(1), "0041");
        Bench.due("no row of collation", x.key(0, 1, false), 4);
        Bench.due("reset again", x.reset(), 1);
        Bench.due("and again", x.reset(), 0);
    }

    private static void counts() {
        Bench b = new Bench();
        TextAtlas x = b.atlas;
        Bench.argument("count -1", () -> x.count(-1));
        Bench.argument("count 4", () -> x.count(4));
        b.lines(0, "0041;Lu;0;;;;", "0041;Ll;0;;;;").lines(1, "0041;;;;").none(0, "0041");
        Bench.due("also those in whose place another stands", x.count(2), 3);
        Bench.due("not sealed", x.count(3), 0);
        b.sealed();
        Bench.due("sealed", x.count(3), 1);
        b.put(0, "41 E9").tape("xy");
        x.bytes(0);
        Bench.due("result", x.count(1), 3);
        Bench.due("tape", x.count(0), 2);
    }
}
