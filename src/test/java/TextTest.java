import java.nio.ByteBuffer;
import java.nio.charset.CharacterCodingException;
import java.nio.charset.StandardCharsets;
import java.util.ArrayList;
import java.util.Arrays;
import java.util.List;

/** Promises 7 (text), 8 (add), 9 (part), 10 (point), 11 (size), 22 (bytes) and 23 (word). */
final class TextTest {
    public static void main(String[] args) {
        text();
        badText();
        allBeginnings();
        longText();
        addAndPoint();
        part();
        bytes();
        roundTrips();
        word();
        everyWord();
        Bench.finish();
    }

    private static void text() {
        Bench b = new Bench();
        TextAtlas x = b.atlas;
        b.tape("A\0\u007f\u00c2\u0080\u00df\u00bf\u00e0\u00a0\u0080\u00ed\u009f\u00bf\u00ee\u0080\u0080");
        b.tape("\u00ef\u00bf\u00bf\u00f0\u0090\u0080\u0080\u00f4\u008f\u00bf\u00bf");
        Bench.argument("slot -1", () -> x.text(-1));
        Bench.argument("slot 8", () -> x.text(8));
        Bench.due("tape stays", x.count(0), 27);
        Bench.due("text", x.text(3), 11);
        Bench.due("points", b.show(3), "0041 0000 007F 0080 07FF 0800 D7FF E000 FFFF 10000 10FFFF");
        Bench.due("tape is read", x.count(0), 0);
        Bench.due("text of nothing", x.text(3), 0);
        Bench.due("is empty", x.size(3), 0);
    }

    private static void badText() {
        String[] bad = {"\u0080", "\u00bf", "\u00c0\u0080", "\u00c1\u00bf", "\u00c2", "\u00c2A", "\u00e0\u0080\u0080",
            "\u00e0\u009f\u00bf", "\u00ed\u00a0\u0080", "\u00ed\u00bf\u00bf", "\u00e1\u0080", "\u00e1\u0080A",
            "\u00f0\u0080\u0080\u0080", "\u00f0\u008f\u00bf\u00bf", "\u00f4\u0090\u0080\u0080", "\u00f5\u0080\u0080\u0080",
            "\u00f8\u0088\u0080\u0080\u0080", "\u00ff", "\u00fe", "\u00f1\u0080\u0080", "\u00f1\u0080\u0080\u00c0", "\u00c2\u00c2\u0080"};
        Bench b = new Bench().put(1, "58");
        for (String s : bad) {
            b.tape("abc" + s);
            Bench.unsupported("text of " + Arrays.toString(s.toCharArray()), () -> b.atlas.text(1));
            Bench.due("tape is empty", b.atlas.count(0), 0);
            Bench.due("text stays", b.show(1), "0058");
        }
        b.tape("\u00c2\u0080").atlas.end(1);
        Bench.unsupported("what was cut is not read", () -> b.atlas.text(1));
    }

    /** Every row of two bytes, and those of three and four around each bound, as the library's decoder has them. */
    private static void allBeginnings() {
        List<byte[]> all = new ArrayList<>();
        for (int a = 0; a < 256; a++) {
            all.add(new byte[] {(byte) a});
            for (int b = 0; b < 256; b++) {
                all.add(new byte[] {(byte) a, (byte) b});
            }
        }
        int[] second = {0x7F, 0x80, 0x8F, 0x90, 0x9F, 0xA0, 0xBF, 0xC0};
        int[] later = {0x7F, 0x80, 0xBF, 0xC0};
        for (int a = 0xE0; a < 0x100; a++) {
            for (int b : second) {
                for (int c : later) {
                    all.add(new byte[] {(byte) a, (byte) b, (byte) c});
                    for (int d : later) {
                        all.add(new byte[] {(byte) a, (byte) b, (byte) c, (byte) d});
                    }
                }
            }
        }
        Bench bench = new Bench();
        for (int k = 0; k < all.size(); k++) {
            bench = k % 60 == 0 ? new Bench() : bench;
            decoded(bench, all.get(k));
        }
    }

    private static void decoded(Bench b, byte[] bytes) {
        String want = "UnsupportedOperationException";
        try {
            String text = StandardCharsets.UTF_8.newDecoder().decode(ByteBuffer.wrap(bytes)).toString();
            want = text.codePoints().boxed().toList().toString();
        } catch (CharacterCodingException e) {
            // What the decoder refuses is no UTF-8.
        }
        b.tape(bytes);
        String got = Bench.answer(() -> {
            List<Integer> points = new ArrayList<>();
            int many = b.atlas.text(0);
            for (int i = 0; i < many; i++) {
                points.add(b.atlas.point(0, i));
            }
            return points;
        });
        Bench.due("text of " + Arrays.toString(bytes), got, want);
    }

    private static void longText() {
        Bench b = new Bench();
        TextAtlas x = b.atlas;
        b.tape("x".repeat(2000));
        Bench.due("2000", x.text(0), 2000);
        b.tape("x".repeat(2001));
        Bench.bounds("2001", () -> x.text(0));
        Bench.due("tape is empty", x.count(0), 0);
        Bench.due("text stays", x.size(0), 2000);
        Bench.bounds("add to 2001", () -> x.add(0, 0x41));
        Bench.due("size stays", x.size(0), 2000);
        b.tape("x".repeat(2001) + "\u00ff");
        Bench.unsupported("bad before long", () -> x.text(0));
    }

    private static void addAndPoint() {
        TextAtlas x = new TextAtlas();
        Bench.due("add", x.add(0, 0x10FFFF), 1);
        Bench.due("add D800", x.add(0, 0xD800), 2);
        Bench.due("add 0", x.add(0, 0), 3);
        Bench.argument("add 110000", () -> x.add(0, 0x110000));
        Bench.argument("add -1", () -> x.add(0, -1));
        Bench.argument("add to 8", () -> x.add(8, 0));
        Bench.argument("add to -1", () -> x.add(-1, 0));
        Bench.due("point 0", x.point(0, 0), 0x10FFFF);
        Bench.due("point 2", x.point(0, 2), 0);
        Bench.bounds("point 3", () -> x.point(0, 3));
        Bench.bounds("point -1", () -> x.point(0, -1));
        Bench.bounds("point of nothing", () -> x.point(1, 0));
        Bench.argument("point of 8", () -> x.point(8, 0));
        Bench.argument("point of -1", () -> x.point(-1, 5));
        Bench.due("size", x.size(0), 3);
        Bench.due("other slot", x.size(1), 0);
        Bench.argument("size of 8", () -> x.size(8));
        Bench.argument("size of -1", () -> x.size(-1));
    }

    private static void part() {
        Bench b = new Bench().put(0, "41 42 43 44 45").put(1, "58");
        TextAtlas x = b.atlas;
        Bench.due("part", x.part(1, 0, 1, 4), 3);
        Bench.due("points", b.show(1), "0042 0043 0044");
        Bench.due("source stays", x.size(0), 5);
        Bench.due("of itself", x.part(1, 1, 1, 3), 2);
        Bench.due("points", b.show(1), "0043 0044");
        Bench.argument("j beyond", () -> x.part(1, 0, 0, 6));
        Bench.argument("i above j", () -> x.part(1, 0, 3, 2));
        Bench.argument("i below", () -> x.part(1, 0, -1, 2));
        Bench.argument("i and j below", () -> x.part(1, 0, -2, -1));
        Bench.argument("t", () -> x.part(8, 0, 0, 0));
        Bench.argument("u", () -> x.part(0, -1, 0, 0));
        Bench.due("nothing changed", b.show(1), "0043 0044");
        Bench.due("empty part", x.part(1, 0, 5, 5), 0);
        Bench.due("all", x.part(2, 0, 0, 5), 5);
    }

    private static void bytes() {
        Bench b = new Bench().put(0, "41 7F 80 7FF 800 D7FF E000 FFFF 10000 10FFFF").put(1, "41 D800").put(2, "DFFF");
        TextAtlas x = b.atlas;
        Bench.due("bytes", x.bytes(0), 26);
        String all = "417FC280DFBFE0A080ED9FBFEE8080EFBFBFF0908080F48FBFBF";
        Bench.due("result", b.result(), all);
        Bench.unsupported("D800", () -> x.bytes(1));
        Bench.unsupported("DFFF", () -> x.bytes(2));
        Bench.due("result stays", b.result(), all);
        Bench.argument("slot 8", () -> x.bytes(8));
        Bench.argument("slot -1", () -> x.bytes(-1));
        Bench.due("bytes of nothing", x.bytes(3), 0);
        Bench.due("result is empty", x.count(1), 0);
    }

    /** The first and the last of each width, as the library's encoder has them, and back. */
    private static void roundTrips() {
        int[] points = {0, 1, 0x7E, 0x7F, 0x80, 0x81, 0xFF, 0x100, 0x7FE, 0x7FF, 0x800, 0x801, 0xFFF, 0x1000, 0xCFFF, 0xD000, 0xD7FF, 0xE000, 0xFFFE,
            0xFFFF, 0x10000, 0x10001, 0x3FFFF, 0x40000, 0xFFFFF, 0x100000, 0x10FFFE, 0x10FFFF};
        Bench b = new Bench();
        for (int point : points) {
            b.put(0, Integer.toHexString(point));
            byte[] bytes = new String(Character.toChars(point)).getBytes(StandardCharsets.UTF_8);
            Bench.due("bytes of " + point, b.atlas.bytes(0), bytes.length);
            long word = 0;
            for (int k = 0; k < 8; k++) {
                word = word << 8 | (k < bytes.length ? bytes[k] & 0xFF : 0);
            }
            Bench.due("word of " + point, b.atlas.word(0), word);
            Bench.due("text of " + point, b.tape(bytes).atlas.text(1), 1);
            Bench.due("back to " + point, b.atlas.point(1, 0), point);
        }
    }

    /** From every byte of a result of 20 on: eight bytes, then ever more zeros. */
    private static void everyWord() {
        Bench b = new Bench().put(0, "10FFFF 10FFFE 10FFFD 10FFFC 10FFFB");
        Bench.due("bytes", b.atlas.bytes(0), 20);
        String hex = "F48FBFBFF48FBFBEF48FBFBDF48FBFBCF48FBFBB" + "00".repeat(8);
        for (int i = 0; i < 20; i++) {
            Bench.due("word " + i, String.format("%016X", b.atlas.word(i)), hex.substring(2 * i, 2 * i + 16));
        }
        Bench.bounds("word 20", () -> b.atlas.word(20));
    }

    private static void word() {
        Bench b = new Bench().put(0, "41 42 43 44 45 46 47 10FFFF");
        TextAtlas x = b.atlas;
        Bench.due("bytes", x.bytes(0), 11);
        Bench.due("word 0", Long.toHexString(x.word(0)), "41424344454647f4");
        Bench.due("word 3", Long.toHexString(x.word(3)), "44454647f48fbfbf");
        Bench.due("word 7", Long.toHexString(x.word(7)), "f48fbfbf00000000");
        Bench.due("word 10", Long.toHexString(x.word(10)), "bf00000000000000");
        Bench.bounds("word 11", () -> x.word(11));
        Bench.bounds("word -1", () -> x.word(-1));
        Bench.bounds("word far away", () -> x.word(Integer.MAX_VALUE));
        b.put(0, "41").atlas.bytes(0);
        Bench.due("no old bytes behind the end", Long.toHexString(x.word(0)), "4100000000000000");
    }
}
