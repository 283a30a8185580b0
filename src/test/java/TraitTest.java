/** The six properties: each does its own work and no other's, be it alone or beside the five others. */
final class TraitTest {
    private static final String[] NAMES = {"Composition_Exclusion", "Case_Ignorable", "Cased", "Soft_Dotted", "Extended_Pictographic",
        "Unified_Ideograph"};
    // The point under test has some of the properties; its neighbours are told what each rule needs.
    private static final String POINT = "2001";

    public static void main(String[] args) {
        for (int k = 0; k < NAMES.length; k++) {
            for (int set : new int[] {0, 1 << k, 63 - (1 << k), 63}) {
                composition(set);
                caseIgnorable(set);
                cased(set);
                softDotted(set);
                pictographic(set);
                unified(set);
            }
        }
        Bench.finish();
    }

    private static Bench told(int set) {
        Bench b = new Bench();
        for (int k = 0; k < NAMES.length; k++) {
            if ((set >> k & 1) != 0) {
                b.lines(3, POINT + ";" + NAMES[k]);
            }
        }
        return b;
    }

    private static boolean has(int set, String name) {
        return (set >> java.util.Arrays.asList(NAMES).indexOf(name) & 1) != 0;
    }

    private static void change(Bench b, int kind, String points, String want, int set) {
        b.put(0, points).atlas.change(1, 0, kind, 0);
        Bench.due("change " + kind + " of " + points + " with properties " + set, b.show(1), want);
    }

    private static void composition(int set) {
        Bench b = told(set).lines(0, POINT + ";Lo;0;0041 0043;;;");
        boolean excluded = has(set, "Composition_Exclusion");
        Bench.due("pairs with properties " + set, b.atlas.seal(), excluded ? 0 : 1);
        Bench.due("properties", b.atlas.about(0x2001, 6), set);
        Bench.due("role with properties " + set, b.atlas.about(0x2001, 7), excluded ? 1 : 0);
        Bench.due("role of the second with properties " + set, b.atlas.about(0x43, 7), excluded ? 0 : 2);
        b.put(0, "41 43").atlas.normal(0, 0, 2);
        Bench.due("composed with properties " + set, b.show(0), excluded ? "0041 0043" : POINT);
    }

    /** Behind a CASED one; alone it is not, so what is Case_Ignorable is passed over and all else stops. */
    private static void caseIgnorable(int set) {
        Bench b = told(set).lines(3, "0041;Cased").lines(1, "03A3;03C2;;;Final_Sigma").sealed();
        boolean holds = has(set, "Case_Ignorable") || has(set, "Cased");
        change(b, 0, "0041 " + POINT + " 03A3", "0041 " + POINT + (holds ? " 03C2" : " 03A3"), set);
    }

    private static void cased(int set) {
        Bench b = told(set).lines(1, "03A3;03C2;;;Final_Sigma", POINT + ";" + POINT + ";0001;;").sealed();
        boolean before = has(set, "Cased") && !has(set, "Case_Ignorable");
        change(b, 0, POINT + " 03A3", POINT + (before ? " 03C2" : " 03A3"), set);
        change(b, 2, POINT, has(set, "Cased") ? "0001" : POINT, set);
    }

    private static void softDotted(int set) {
        Bench b = told(set).lines(1, "0307;;;;After_Soft_Dotted").sealed();
        change(b, 1, POINT + " 0307", has(set, "Soft_Dotted") ? POINT : POINT + " 0307", set);
    }

    private static void pictographic(int set) {
        Bench b = told(set).lines(3, "0041;Extended_Pictographic", "200D;GCB=ZWJ", "200D;WB=ZWJ").sealed();
        boolean picture = has(set, "Extended_Pictographic");
        Bench.due("grapheme before it, properties " + set, b.put(0, "41 200D " + POINT).atlas.edge(0, 0, 2), !picture);
        Bench.due("word before it, properties " + set, b.atlas.edge(0, 1, 2), !picture);
        Bench.due("grapheme behind it, properties " + set, b.put(0, POINT + " 200D 41").atlas.edge(0, 0, 2), !picture);
    }

    private static void unified(int set) {
        Bench b = told(set).sealed().put(0, POINT);
        b.atlas.key(0, 1, false);
        Bench.due("implicit, properties " + set, b.result(), has(set, "Unified_Ideograph") ? "FB40A001" : "FBC0A001");
    }
}
