/** "What comes later for the same .. stands in place of what was; those of 1 are kept in order", and POINTS never told. */
final class LaterTest {
    public static void main(String[] args) {
        facts();
        factsAndRanges();
        breaks();
        properties();
        folds();
        entries();
        specials();
        kindsApart();
        edgesOfRanges();
        counts();
        Bench.finish();
    }

    private static void about(Bench b, int point, int what, int want) {
        Bench.dueOf("about " + Integer.toHexString(point) + " " + what, () -> b.atlas.about(point, what), want);
    }

    private static void change(Bench b, int kind, int locale, String points, String want) {
        b.put(0, points).atlas.change(1, 0, kind, locale);
        Bench.due("change " + kind + " in locale " + locale + " of " + points, b.show(1), want);
    }

    /** All of the line goes, what it does not tell again, too. */
    private static void facts() {
        Bench b = new Bench().lines(0, "0041;Lu;9;0042 0043;0044;0045;0046", "0041;Mn;0;;;;").sealed();
        about(b, 0x41, 0, 'M' * 256 + 'n');
        about(b, 0x41, 1, 0);
        about(b, 0x41, 4, 1);
        about(b, 0x41, 5, 1);
        about(b, 0x41, 7, 0);
        for (int kind = 0; kind < 4; kind++) {
            change(b, kind, 0, "0041", "0041");
        }
        Bench back = new Bench().lines(0, "0041;Mn;0;;;;", "0041;Ll;9;<x>0042 0043;0044;0045;0046").sealed();
        about(back, 0x41, 0, 'L' * 256 + 'l');
        about(back, 0x41, 1, 9);
        about(back, 0x41, 4, 1);
        about(back, 0x41, 5, 2);
        change(back, 0, 0, "0041", "0045");
        change(back, 1, 0, "0041", "0044");
        change(back, 2, 0, "0041", "0046");
        Bench kinds = new Bench().lines(0, "0041;Lu;0;<x>0042 0043;;;", "0041;Lu;0;0044 0045;;;");
        Bench.due("canonical in place of compatible", kinds.atlas.seal(), 1);
        Bench other = new Bench().lines(0, "0041;Lu;0;0042 0043;;;", "0041;Lu;0;<x>0044 0045;;;");
        Bench.due("compatible in place of canonical", other.atlas.seal(), 0);
    }

    private static void factsAndRanges() {
        Bench b = new Bench().lines(0, "0041;Lu;1;;;;", "0043;Lu;3;;;;", "0040..0042;Ll;2;;;;", "0042..0044;Lt;4;;;;", "0043;Lo;5;;;;").sealed();
        int[] classes = {0, 2, 2, 4, 5, 4, 0};
        for (int i = 0; i < classes.length; i++) {
            about(b, 0x3F + i, 1, classes[i]);
        }
        Bench all = new Bench().lines(0, "0041;Lu;1;0042;;;", "0000..10FFFF;Zs;7;;;;").sealed();
        about(all, 0, 1, 7);
        about(all, 0x41, 1, 7);
        about(all, 0x41, 4, 1);
        about(all, 0x10FFFF, 0, 'Z' * 256 + 's');
    }

    private static void breaks() {
        Bench b = new Bench().lines(3, "0041;GCB=CR", "0041;WB=LF", "0041;GCB=LVT", "0042;WB=CR", "0042;GCB=LF", "0042;WB=WSegSpace").sealed();
        about(b, 0x41, 2, 13);
        about(b, 0x41, 3, 2);
        about(b, 0x42, 2, 2);
        about(b, 0x42, 3, 18);
        Bench other = new Bench().lines(3, "0041;GCB=CR", "0041;WB=CR", "0041;GCB=Other").sealed();
        about(other, 0x41, 2, 0);
        about(other, 0x41, 3, 1);
    }

    /** The six properties have no place in which another could stand. */
    private static void properties() {
        Bench b = new Bench().lines(3, "0041;Cased", "0041;Soft_Dotted", "0041;GCB=CR", "0041;Cased", "0040..0042;Case_Ignorable").sealed();
        about(b, 0x40, 6, 2);
        about(b, 0x41, 6, 14);
        about(b, 0x42, 6, 2);
        about(b, 0x43, 6, 0);
    }

    private static void folds() {
        Bench b = new Bench().lines(2, "0041;C;0001", "0041;C;0002", "0042;F;0001 0001", "0042;C;0003", "0042;F;0002", "0043;T;0001", "0043;T;0002");
        b.lines(2, "0044;F;0001", "0044;C;0002", "0044;S;0003", "0044;T;0004", "0045;S;0001").sealed();
        change(b, 3, 0, "0041 0042 0043 0044 0045", "0002 0002 0043 0001 0045");
        change(b, 3, 1, "0041 0042 0043 0044 0045", "0002 0002 0002 0004 0045");
    }

    private static void entries() {
        Bench b = new Bench().lines(4, "0041;[.0001.0000.0000]", "0041 0042;[.0002.0000.0000]", "0041 0042 0043;[.0003.0000.0000]");
        b.lines(4, "0041   0042;[.0004.0000.0000][.0005.0000.0000]", "0041;[.0006.0000.0000]").sealed();
        String[][] due = {{"41", "0006"}, {"41 42", "00040005"}, {"41 42 43", "0003"}};
        for (String[] pair : due) {
            b.put(0, pair[0]).atlas.key(0, 1, false);
            Bench.due("key of " + pair[0], b.result(), pair[1]);
        }
    }

    /** The first with CONDITIONS that all hold; the last without. */
    private static void specials() {
        Bench b = new Bench().lines(1, "0041;0001;;;", "0041;0002;;;tr", "0041;0003;;;", "0041;0004;;;tr", "0041;0005;;;az", "0041;0006;;;tr az");
        b.sealed();
        change(b, 0, 0, "0041", "0003");
        change(b, 0, 1, "0041", "0002");
        change(b, 0, 2, "0041", "0005");
        change(b, 0, 3, "0041", "0003");
        change(b, 1, 1, "0041", "");
    }

    /** A line takes the place of its own kind alone. */
    private static void kindsApart() {
        Bench b = new Bench().lines(1, "0041;0001;;;").lines(2, "0041;F;0002").lines(3, "0041;GCB=CR", "0041;Cased").lines(4, "0041;[.0003.0000.0000]");
        b.lines(0, "0041;Mn;5;;;;").sealed();
        change(b, 0, 0, "0041", "0001");
        change(b, 3, 0, "0041", "0002");
        about(b, 0x41, 1, 5);
        about(b, 0x41, 2, 1);
        about(b, 0x41, 6, 4);
        b.put(0, "41").atlas.key(0, 1, false);
        Bench.due("key", b.result(), "0003");
    }

    private static void edgesOfRanges() {
        Bench b = new Bench().lines(3, "0000..0001;Cased", "FFFF..10000;GCB=CR", "10FFFE..10FFFF;WB=CR").sealed();
        int[][] due = {{0, 6, 4}, {1, 6, 4}, {2, 6, 0}, {0xFFFE, 2, 0}, {0xFFFF, 2, 1}, {0x10000, 2, 1}, {0x10001, 2, 0}, {0x10FFFD, 3, 0},
            {0x10FFFE, 3, 1}, {0x10FFFF, 3, 1}};
        for (int[] row : due) {
            about(b, row[0], row[1], row[2]);
        }
        Bench one = new Bench().lines(1, "0041;0001;;;").lines(2, "0041;C;0002").lines(0, "0041;Lu;7;;;;").sealed();
        change(one, 0, 0, "0040 0041 0042", "0040 0001 0042");
        change(one, 3, 0, "0040 0041 0042", "0040 0002 0042");
        about(one, 0x40, 1, 0);
        about(one, 0x42, 1, 0);
        Bench ends = new Bench().lines(1, "0000;0001;;;", "10FFFF;0002;;;").lines(2, "0000;C;0003", "10FFFF;C;0004").sealed();
        change(ends, 0, 0, "0000 10FFFF", "0001 0002");
        change(ends, 3, 0, "0000 10FFFF", "0003 0004");
    }

    /** Those in whose place another one stands count, too; refused ones do not; reset begins anew. */
    private static void counts() {
        Bench b = new Bench();
        for (int i = 1; i <= 10; i++) {
            b.lines(0, "0041;Lu;0;;;;");
            Bench.due("lines", b.atlas.count(2), i);
            b.none(0, "0041;Lu;0;;;");
        }
        Bench.due("lines", b.atlas.count(2), 10);
        b.sealed();
        Bench.due("lines of sealed ones", b.atlas.count(2), 10);
        b.atlas.reset();
        Bench.due("lines after reset", b.atlas.count(2), 0);
        b.lines(4, "0041;[.0001.0000.0000]");
        Bench.due("the first one after reset", b.atlas.count(2), 1);
    }
}
