/** What each call answers of the empty TEXT, the empty TAPE, the empty RESULT and no DATA at all. */
final class EmptyTest {
    public static void main(String[] args) {
        tape();
        result();
        data();
        slots();
        forms();
        cases();
        matches();
        breaks();
        keys();
        becomesEmpty();
        Bench.finish();
    }

    private static void tape() {
        TextAtlas x = new TextAtlas();
        Bench.due("end of nothing", x.end(0), 0);
        Bench.argument("end beyond nothing", () -> x.end(1));
        for (int k = 0; k < 5; k++) {
            int kind = k;
            Bench.unsupported("line(" + kind + ") of nothing", () -> x.line(kind));
        }
        Bench.due("no line was taken", x.count(2), 0);
        Bench.due("text of nothing", x.text(0), 0);
        Bench.due("tape", x.count(0), 0);
        Bench.due("feed cut to nothing", x.feed(1, 2, 3, 4, 5) + x.end(0), 20);
        Bench.due("text of what was cut to nothing", x.text(0), 0);
    }

    private static void result() {
        Bench b = new Bench();
        Bench.due("result at first", b.atlas.count(1), 0);
        Bench.bounds("word of nothing", () -> b.atlas.word(0));
        b.put(0, "41").atlas.bytes(0);
        Bench.due("result is filled", b.atlas.word(0), 0x41L << 56);
        Bench.due("bytes of nothing", b.atlas.bytes(1), 0);
        Bench.due("result is empty again", b.atlas.count(1), 0);
        Bench.bounds("word of nothing again", () -> b.atlas.word(0));
    }

    private static void data() {
        Bench b = new Bench();
        Bench.due("reset of nothing", b.atlas.reset(), 0);
        Bench.due("seal of nothing", b.atlas.seal(), 0);
        int[] untold = {'C' * 256 + 'n', 0, 0, 0, 1, 1, 0, 0};
        for (int point : new int[] {0, 0x41, 0xD800, 0x10FFFF}) {
            for (int what = 0; what < 8; what++) {
                Bench.due("about " + point + " " + what, b.atlas.about(point, what), untold[what]);
            }
        }
        b.put(0, "0041 0301 0130");
        for (int form = 0; form < 4; form++) {
            Bench.due("form " + form + " without data", b.atlas.normal(1, 0, form), 3);
            Bench.due("points", b.show(1), "0041 0301 0130");
        }
        for (int kind = 0; kind < 4; kind++) {
            Bench.due("case " + kind + " without data", b.atlas.change(1, 0, kind, 1), 3);
            Bench.due("points", b.show(1), "0041 0301 0130");
        }
        Bench.due("key without data", b.atlas.key(0, 1, false), 12);
        Bench.due("its weights", b.result(), "FBC08041FBC08301FBC08130");
        Bench.due("reset of no data that are sealed", b.atlas.reset(), 1);
    }

    private static void slots() {
        TextAtlas x = new TextAtlas();
        for (int k = 0; k < 8; k++) {
            int t = k;
            Bench.due("size at first", x.size(t), 0);
            Bench.bounds("point of nothing", () -> x.point(t, 0));
            Bench.due("part of nothing", x.part(t, 7 - t, 0, 0), 0);
            Bench.argument("part beyond nothing", () -> x.part(t, 7 - t, 0, 1));
            Bench.argument("part behind nothing", () -> x.part(t, 7 - t, 1, 1));
        }
        Bench.due("the first point", x.add(7, 0), 1);
        Bench.due("and no other slot", x.size(6), 0);
    }

    private static void forms() {
        Bench b = new Bench().lines(0, "00C1;Lu;0;0041 0301;;;").sealed().put(2, "00C1");
        for (int form = 0; form < 4; form++) {
            Bench.due("normal " + form, b.put(1, "41").atlas.normal(1, 0, form), 0);
            Bench.due("size", b.atlas.size(1), 0);
            Bench.due("is " + form, b.atlas.is(0, form), true);
            Bench.due("join of nothing and nothing " + form, b.put(1, "41").atlas.join(1, 0, 0, form), 0);
            Bench.due("join with nothing behind " + form, b.atlas.join(1, 2, 0, form), form < 2 ? 2 : 1);
            Bench.due("join with nothing before " + form, b.atlas.join(1, 0, 2, form), form < 2 ? 2 : 1);
        }
    }

    private static void cases() {
        Bench b = new Bench().lines(1, "0041;;;;").sealed();
        for (int kind = 0; kind < 4; kind++) {
            for (int locale = 0; locale < 4; locale++) {
                Bench.due("change " + kind + " " + locale, b.put(1, "42").atlas.change(1, 0, kind, locale), 0);
                Bench.due("size", b.atlas.size(1), 0);
            }
        }
    }

    private static void matches() {
        Bench b = new Bench().sealed().put(2, "41");
        for (int kind = 0; kind < 3; kind++) {
            Bench.due("nothing and nothing " + kind, b.atlas.match(0, 1, kind), true);
            Bench.due("nothing and itself " + kind, b.atlas.match(0, 0, kind), true);
            Bench.due("nothing and something " + kind, b.atlas.match(0, 2, kind), false);
            Bench.due("something and nothing " + kind, b.atlas.match(2, 0, kind), false);
        }
    }

    /** In an empty TEXT there is no boundary, but there is a place 0. */
    private static void breaks() {
        Bench b = new Bench().sealed().put(1, "41");
        for (int k = 0; k < 2; k++) {
            int kind = k;
            Bench.due("edge of nothing " + kind, b.atlas.edge(0, kind, 0), false);
            Bench.argument("edge beyond nothing " + kind, () -> b.atlas.edge(0, kind, 1));
            Bench.due("next of nothing " + kind, b.atlas.next(0, kind, 0, false), -1);
            Bench.due("next back of nothing " + kind, b.atlas.next(0, kind, 0, true), -1);
            Bench.due("edge before the only point " + kind, b.atlas.edge(1, kind, 0), true);
            Bench.due("edge behind the only point " + kind, b.atlas.edge(1, kind, 1), true);
            Bench.due("next of the only point " + kind, b.atlas.next(1, kind, 0, false), 1);
            Bench.due("next behind the only point " + kind, b.atlas.next(1, kind, 1, false), -1);
            Bench.due("next back behind the only point " + kind, b.atlas.next(1, kind, 1, true), 0);
            Bench.due("next back before the only point " + kind, b.atlas.next(1, kind, 0, true), -1);
        }
    }

    private static void keys() {
        Bench b = new Bench().lines(4, "0041;[.0000.0000.0000]").sealed().put(1, "41").put(2, "42");
        for (int strength = 1; strength <= 4; strength++) {
            for (boolean shifted : new boolean[] {false, true}) {
                int between = shifted ? strength - 1 : Math.min(strength, 3) - 1;
                String what = " " + strength + " " + shifted;
                Bench.due("key of nothing" + what, b.atlas.key(0, strength, shifted), 2 * between);
                Bench.due("result" + what, b.result(), "0000".repeat(between));
                Bench.due("key of zeros" + what, b.atlas.key(1, strength, shifted), 2 * between);
                Bench.due("nothing and nothing" + what, b.atlas.compare(0, 3, strength, shifted), 0);
                Bench.due("nothing and zeros" + what, b.atlas.compare(0, 1, strength, shifted), 0);
                Bench.due("nothing and something" + what, b.atlas.compare(0, 2, strength, shifted), -1);
                Bench.due("something and nothing" + what, b.atlas.compare(2, 0, strength, shifted), 1);
            }
        }
    }

    private static void becomesEmpty() {
        Bench b = new Bench().lines(1, "0041;;;;").sealed();
        for (int kind = 0; kind < 3; kind++) {
            Bench.due("all points become none " + kind, b.put(0, "41 41 41").atlas.change(0, 0, kind, 0), kind == 2 ? 3 : 0);
        }
        Bench cased = new Bench().lines(1, "0041;;;;").lines(3, "0041;Cased").sealed();
        Bench.due("title becomes none", cased.put(0, "41 41").atlas.change(0, 0, 2, 0), 0);
        Bench.due("part", b.put(0, "41").atlas.part(0, 0, 1, 1), 0);
        Bench.due("size", b.atlas.size(0), 0);
        Bench.due("reset", b.put(0, "41").atlas.reset(), 1);
        Bench.due("size after reset", b.atlas.size(0), 0);
    }
}
