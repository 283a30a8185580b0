/**
 * "a number out of range": of every number that a call takes the last allowed ones and the first refused ones, on
 * either side; that it comes before all else that could be thrown; and that nothing has changed afterwards.
 */
final class RangeTest {
    private static final int[] SLOT = {0, 7};
    private static final int[] FORM = {0, 3};
    private static final int[] STRENGTH = {1, 4};
    private static final String ARGUMENT = "IllegalArgumentException";
    private static final String STATE = "IllegalStateException";

    /** When a call may be made. */
    private enum When { ALWAYS, OPEN, SEALED }

    private interface Call {
        Object run(TextAtlas x, int[] a);
    }

    public static void main(String[] args) {
        tape();
        texts();
        forms();
        others();
        placesInTexts();
        Bench.finish();
    }

    private static void tape() {
        calls("end", When.ALWAYS, (x, a) -> x.end(a[0]), new int[] {1}, new int[] {0, Scene.TAPE_LENGTH});
        calls("line", When.OPEN, (x, a) -> x.line(a[0]), new int[] {0}, new int[] {0, 4});
        calls("count", When.ALWAYS, (x, a) -> x.count(a[0]), new int[] {0}, new int[] {0, 3});
        calls("text", When.ALWAYS, (x, a) -> x.text(a[0]), new int[] {1}, SLOT);
    }

    private static void texts() {
        int[] point = {0, 0x10FFFF};
        calls("add", When.ALWAYS, (x, a) -> x.add(a[0], a[1]), new int[] {1, 0x41}, SLOT, point);
        calls("point", When.ALWAYS, (x, a) -> x.point(a[0], 0), new int[] {1}, SLOT);
        calls("size", When.ALWAYS, (x, a) -> x.size(a[0]), new int[] {1}, SLOT);
        calls("bytes", When.ALWAYS, (x, a) -> x.bytes(a[0]), new int[] {1}, SLOT);
        calls("about", When.SEALED, (x, a) -> x.about(a[0], a[1]), new int[] {0x41, 1}, point, new int[] {0, 7});
    }

    private static void forms() {
        calls("normal", When.SEALED, (x, a) -> x.normal(a[0], a[1], a[2]), new int[] {2, 1, 1}, SLOT, SLOT, FORM);
        calls("is", When.SEALED, (x, a) -> x.is(a[0], a[1]), new int[] {1, 1}, SLOT, FORM);
        calls("join", When.SEALED, (x, a) -> x.join(a[0], a[1], a[2], a[3]), new int[] {3, 1, 2, 1}, SLOT, SLOT, SLOT, FORM);
    }

    private static void others() {
        calls("change", When.SEALED, (x, a) -> x.change(a[0], a[1], a[2], a[3]), new int[] {2, 1, 1, 1}, SLOT, SLOT, FORM, FORM);
        calls("match", When.SEALED, (x, a) -> x.match(a[0], a[1], a[2]), new int[] {1, 2, 1}, SLOT, SLOT, new int[] {0, 2});
        for (boolean shifted : new boolean[] {false, true}) {
            calls("key", When.SEALED, (x, a) -> x.key(a[0], a[1], shifted), new int[] {1, 2}, SLOT, STRENGTH);
            calls("compare", When.SEALED, (x, a) -> x.compare(a[0], a[1], a[2], shifted), new int[] {1, 2, 2}, SLOT, SLOT, STRENGTH);
        }
    }

    private static void placesInTexts() {
        int[] kind = {0, 1};
        calls("edge", When.SEALED, (x, a) -> x.edge(a[0], a[1], 0), new int[] {1, 0}, SLOT, kind);
        calls("edge at", When.SEALED, (x, a) -> x.edge(2, a[0], a[1]), new int[] {1, 1}, kind, new int[] {0, 3});
        calls("edge in an empty text", When.SEALED, (x, a) -> x.edge(7, 0, a[0]), new int[] {0}, new int[] {0, 0});
        for (boolean back : new boolean[] {false, true}) {
            calls("next", When.SEALED, (x, a) -> x.next(a[0], a[1], 0, back), new int[] {1, 0}, SLOT, kind);
            calls("next at", When.SEALED, (x, a) -> x.next(2, a[0], a[1], back), new int[] {1, 1}, kind, new int[] {0, 3});
            calls("next in an empty text", When.SEALED, (x, a) -> x.next(7, 1, a[0], back), new int[] {0}, new int[] {0, 0});
        }
        calls("part", When.ALWAYS, (x, a) -> x.part(a[0], a[1], 0, 0), new int[] {1, 2}, SLOT, SLOT);
        calls("part from", When.ALWAYS, (x, a) -> x.part(0, 2, a[0], 2), new int[] {1}, new int[] {0, 2});
        calls("part to", When.ALWAYS, (x, a) -> x.part(0, 2, 1, a[0]), new int[] {2}, new int[] {1, 3});
        calls("part of an empty text", When.ALWAYS, (x, a) -> x.part(0, 7, a[0], a[1]), new int[] {0, 0}, new int[] {0, 0}, new int[] {0, 0});
        calls("part of the end", When.ALWAYS, (x, a) -> x.part(0, 2, 3, a[0]), new int[] {3}, new int[] {3, 3});
    }

    /** The call with good numbers, of which each in turn takes all values at the ends of its range. */
    private static void calls(String name, When when, Call call, int[] good, int[]... ranges) {
        for (int k = 0; k < ranges.length; k++) {
            for (int value : ranges[k]) {
                taken(name, when, call, with(good, k, value));
            }
            for (int value : outside(ranges[k])) {
                int[] bad = with(good, k, value);
                refused(name, call, bad, good);
                for (int other = k + 1; other < ranges.length; other++) {
                    refused(name, call, with(bad, other, ranges[other][1] + 1), good);
                }
            }
        }
    }

    private static int[] outside(int[] range) {
        return new int[] {range[0] - 1, range[1] + 1, Integer.MIN_VALUE, Integer.MAX_VALUE};
    }

    private static int[] with(int[] numbers, int k, int value) {
        int[] changed = numbers.clone();
        changed[k] = value;
        return changed;
    }

    /** Allowed numbers: no word of them, and where DATA are not as they must be, of that and nothing else. */
    private static void taken(String name, When when, Call call, int[] numbers) {
        String what = name + java.util.Arrays.toString(numbers);
        for (boolean sealed : new boolean[] {false, true}) {
            if (when == When.ALWAYS || sealed == (when == When.SEALED)) {
                Scene scene = new Scene(sealed);
                boolean argument = Bench.answer(() -> call.run(scene.atlas, numbers)).equals(ARGUMENT);
                Bench.due(what + " is out of range", argument, false);
            } else {
                Scene.refused(what + ", sealed " + sealed, sealed, STATE, x -> call.run(x, numbers));
            }
        }
    }

    private static void refused(String name, Call call, int[] numbers, int[] good) {
        String what = name + java.util.Arrays.toString(numbers) + " for " + java.util.Arrays.toString(good);
        Scene.refused(what + ", open", false, ARGUMENT, x -> call.run(x, numbers));
        Scene.refused(what + ", sealed", true, ARGUMENT, x -> call.run(x, numbers));
    }
}
