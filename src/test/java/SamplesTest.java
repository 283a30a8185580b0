import java.io.IOException;
import java.nio.charset.StandardCharsets;
import java.nio.file.Files;
import java.nio.file.Path;
import java.util.ArrayList;
import java.util.List;

/** Promises 15, 17 to 20 beside the answers of other programs under src/test/samples (its README tells the form). */
final class SamplesTest {
    // A text with all that is asked of it takes fewer than the calls that are left then.
    private static final int WORN = 340;

    private final List<String> lines = new ArrayList<>();
    private Bench bench = new Bench();
    private int calls = WORN;
    private String text = "";
    private int asked;

    public static void main(String[] args) throws IOException {
        for (String name : new String[] {"words", "collation", "casing"}) {
            SamplesTest samples = new SamplesTest();
            for (String row : Files.readAllLines(Path.of("src", "test", "samples", name + ".txt"), StandardCharsets.US_ASCII)) {
                samples.take(row);
            }
            Bench.due("many samples of " + name, samples.asked >= 500, true);
        }
        Bench.finish();
    }

    private void take(String row) {
        String rest = row.length() > 2 ? row.substring(2) : "";
        switch (row.charAt(0)) {
            case '#': break;
            case 'T': lines.clear(); calls = WORN; break;
            case 'L': lines.add(rest); break;
            case 'S': text = rest; renew(); put(0, text); break;
            case 'B': boundaries(rest); break;
            case 'K': key(rest.split(" ", -1)); break;
            case 'R': change(rest.charAt(0) - '0', rest.substring(2).split("\\|", -1)); break;
            case 'C': compare(rest.split(" ", 4)); break;
            default: Bench.due("a row of the samples", row, "one that is known");
        }
    }

    private void renew() {
        if (calls < WORN) {
            return;
        }
        bench = new Bench();
        calls = 1;
        for (String line : lines) {
            bench.shortLine(line.charAt(0) - '0', line.substring(2));
            calls += (line.length() - 2 + 19) / 20 + 1;
        }
        bench.atlas.seal();
    }

    private void put(int t, String points) {
        bench.put(t, points);
        calls += 1 + points.split(" ").length;
    }

    private void due(String what, Object got, Object want) {
        asked++;
        Bench.due(what + " of " + text + " with " + lines, got, want);
        Bench.due("no more than 512 calls", calls <= 512, true);
    }

    private void boundaries(String want) {
        StringBuilder got = new StringBuilder("0");
        for (int at = bench.atlas.next(0, 1, 0, false); at >= 0; at = bench.atlas.next(0, 1, at, false)) {
            got.append(' ').append(at);
            calls++;
        }
        calls++;
        due("words", got, want);
    }

    /** The key at a lower strength is the beginning of it, so each strength up to that one can be asked. */
    private void key(String[] fields) {
        int most = Integer.parseInt(fields[0]);
        boolean shifted = fields[1].equals("1");
        String want = fields.length > 2 ? fields[2] : "";
        int from = 0;
        for (int strength = 1; strength <= most; strength++) {
            int stop = endOfLevel(want, from);
            due("length of key " + strength + " shifted " + shifted, bench.atlas.key(0, strength, shifted), stop / 2);
            from = stop + 4;
        }
        due("key " + most + " shifted " + shifted, bench.result().toLowerCase(), want);
        calls += most + 3 * (want.length() / 16 + 1) + 1;
    }

    private static int endOfLevel(String key, int from) {
        int at = from;
        while (at + 4 <= key.length() && !key.startsWith("0000", at)) {
            at += 4;
        }
        return at;
    }

    private void change(int kind, String[] wanted) {
        for (int locale = 0; locale < 4; locale++) {
            bench.atlas.change(1, 0, kind, locale);
            calls += 2;
            String got = points(bench.atlas.bytes(1));
            due("change " + kind + " in locale " + locale, got, wanted[locale]);
        }
    }

    private String points(int length) {
        byte[] bytes = new byte[length];
        for (int i = 0; i < length; i += 8) {
            long word = bench.atlas.word(i);
            calls++;
            for (int k = i; k < Math.min(i + 8, length); k++) {
                bytes[k] = (byte) (word >>> 56 - 8 * (k - i));
            }
        }
        StringBuilder out = new StringBuilder();
        new String(bytes, StandardCharsets.UTF_8).codePoints().forEach(point -> out.append(String.format("%04X ", point)));
        return out.toString().trim();
    }

    private void compare(String[] fields) {
        String[] both = fields[3].split("\\|", -1);
        renew();
        put(2, both[0]);
        put(3, both[1]);
        calls += 2;
        int strength = Integer.parseInt(fields[0]);
        boolean shifted = fields[1].equals("1");
        text = fields[3];
        due("compare " + strength + " shifted " + shifted, bench.atlas.compare(2, 3, strength, shifted), fields[2]);
        due("the other way round", bench.atlas.compare(3, 2, strength, shifted), -Integer.parseInt(fields[2]));
    }
}
