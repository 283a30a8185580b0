/** Promise 16 (match). */
final class MatchTest {
    public static void main(String[] args) {
        throwing();
        kinds();
        steps();
        limits();
        Bench.finish();
    }

    private static void match(Bench b, String one, String two, boolean fold, boolean canonical, boolean compatible) {
        b.put(0, one).put(1, two);
        boolean[] want = {fold, canonical, compatible};
        for (int k = 0; k < 3; k++) {
            int kind = k;
            Bench.dueOf("match " + kind + " of " + one + " and " + two, () -> b.atlas.match(0, 1, kind), want[kind]);
            Bench.dueOf("match " + kind + " of " + two + " and " + one, () -> b.atlas.match(1, 0, kind), want[kind]);
        }
        Bench.due("text stays", b.show(0), one);
        Bench.due("text stays", b.show(1), two);
    }

    private static void throwing() {
        Bench b = new Bench();
        Bench.state("not sealed", () -> b.atlas.match(0, 0, 0));
        Bench.argument("argument before state", () -> b.atlas.match(0, 0, 3));
        b.sealed();
        Bench.argument("t", () -> b.atlas.match(8, 0, 0));
        Bench.argument("u", () -> b.atlas.match(0, -1, 0));
        Bench.argument("kind 3", () -> b.atlas.match(0, 0, 3));
        Bench.argument("kind -1", () -> b.atlas.match(0, 0, -1));
        Bench.due("nothing and nothing", b.atlas.match(0, 1, 2), true);
    }

    private static void kinds() {
        Bench b = new Bench();
        b.lines(0, "030A;Mn;230;;;;", "0323;Mn;220;;;;", "00C5;Lu;0;0041 030A;;;", "FB01;Ll;0;<c>0066 0069;;;", "FF21;Lu;0;<w>0041;;;");
        b.lines(0, "0345;Mn;240;;;;", "1FB3;Ll;0;03B1 0345;;;", "33A8;So;0;<s>006D 2126;;;", "2126;Lu;0;03A9;;;");
        b.lines(2, "0041;C;0061", "00C5;C;00E5", "0345;C;03B9", "03A9;C;03C9", "00DF;F;0073 0073", "0049;T;0131", "2126;C;03C9").sealed();
        match(b, "0041", "0061", true, true, true);
        match(b, "0041", "0041 0041", false, false, false);
        match(b, "00DF", "0073 0073", true, true, true);
        match(b, "0049", "0131", false, false, false);
        match(b, "00C5", "0061 030A", false, true, true);
        match(b, "0041 030A 0323", "0041 0323 030A", false, true, true);
        match(b, "FB01", "0066 0069", false, false, true);
        match(b, "FF21", "0061", false, false, true);
        match(b, "1FB3 0323", "03B1 03B9 0323", false, false, false);
        match(b, "1FB3", "03B1 03B9", false, true, true);
        match(b, "33A8", "006D 03C9", false, false, true);
        match(b, "33A8", "006D 03A9", false, false, true);
    }

    /** How often each kind folds and decomposes: chains in which each step leads one further. */
    private static void steps() {
        Bench b = new Bench().lines(2, "0041;C;0042", "0042;C;0043", "0043;C;0044", "0044;C;0045");
        b.lines(0, "0051;Lu;0;0052;;;", "0053;Lu;0;<x>0054;;;").lines(2, "0052;C;0051", "0054;C;0053", "0061;C;0053", "0071;C;0051").sealed();
        match(b, "0041", "0042", false, false, false);
        match(b, "0041", "0043", false, false, false);
        match(b, "0042", "0043", false, false, false);
        match(b, "0043", "0044", false, false, true);
        match(b, "0043", "0045", false, false, true);
        match(b, "0044", "0045", true, true, true);
        match(b, "0051", "0052", true, true, true);
        match(b, "0071", "0051", true, true, true);
        match(b, "0071", "0052", true, true, true);
        match(b, "0053", "0054", true, true, true);
        match(b, "0061", "0053", true, true, true);
        match(b, "0061", "0054", true, true, true);
        Bench last = new Bench().lines(0, "0041;Lu;0;0042;;;", "0043;Lu;0;<x>0044;;;").lines(2, "0051;C;0041", "0052;C;0043", "0053;C;0042", "0054;C;0044");
        last.sealed();
        match(last, "0051", "0042", false, true, true);
        match(last, "0051", "0053", false, true, true);
        match(last, "0052", "0044", false, false, true);
        match(last, "0052", "0054", false, false, true);
        match(last, "0041", "0042", false, true, true);
        match(last, "0043", "0044", false, false, true);
    }

    private static void limits() {
        Bench b = new Bench().lines(2, "0041;F;0042 0042").lines(0, "0043;Lu;0;0044 0044;;;", "0045;Lu;0;<x>0044 0044;;;").sealed();
        TextAtlas x = b.atlas;
        b.grow(0, "0041", 10).put(1, "0041");
        Bench.bounds("fold has 2048", () -> x.match(0, 1, 0));
        Bench.bounds("the second one", () -> x.match(1, 0, 0));
        b.write(3, "C".repeat(1001));
        Bench.due("fold only", x.match(3, 3, 0), true);
        Bench.bounds("NFD has 2002", () -> x.match(3, 3, 1));
        b.grow(4, "0045", 10);
        Bench.due("NFD has 1024", x.match(4, 4, 1), true);
        Bench.bounds("NFKD has 2048", () -> x.match(4, 4, 2));
    }
}
