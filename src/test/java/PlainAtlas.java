import java.nio.ByteBuffer;
import java.nio.charset.CharacterCodingException;
import java.nio.charset.StandardCharsets;
import java.util.ArrayList;
import java.util.Arrays;
import java.util.HashMap;
import java.util.HashSet;
import java.util.List;
import java.util.Map;
import java.util.Set;
import java.util.regex.Matcher;
import java.util.regex.Pattern;

/** The document once more, as slow and as near to its words as can be: what TextAtlas is compared with. */
public final class PlainAtlas {
    private static final String CODE = "(?:[0-9A-F]{4}|[1-9A-F][0-9A-F]{4,5})";
    private static final String B = "[\\t ]";
    private static final Pattern ROW = Pattern.compile(CODE + "(?:" + B + "+" + CODE + "){0,17}");
    private static final Pattern ELEMENT = Pattern.compile("\\[([.*])([0-9A-F]{4})\\.([0-9A-F]{4})\\.([0-9A-F]{4})\\]");
    private static final List<String> TRAITS = List.of("Composition_Exclusion", "Case_Ignorable", "Cased", "Soft_Dotted",
        "Extended_Pictographic", "Unified_Ideograph");
    private static final List<String> GCB = List.of(
        "Other CR LF Control Extend ZWJ Regional_Indicator Prepend SpacingMark L V T LV LVT".split(" "));
    private static final List<String> WB = List.of(("Other CR LF Newline Extend ZWJ Regional_Indicator Format Katakana "
        + "Hebrew_Letter ALetter MidLetter MidNum MidNumLet Single_Quote Double_Quote Numeric ExtendNumLet WSegSpace").split(" "));
    private static final List<String> CONDITIONS = List.of(
        "tr az lt Final_Sigma After_Soft_Dotted More_Above Before_Dot Not_Before_Dot After_I".split(" "));

    private record Range(int first, int last) { }

    private record Fact(Range range, String category, int ccc, boolean compatible, List<Integer> row, Integer upper,
            Integer lower, Integer title) { }

    private record Special(int point, List<Integer> lower, List<Integer> title, List<Integer> upper, List<String> conditions) { }

    private record Property(Range range, String name) { }

    private record Element(boolean variable, int p, int s, int t) { }

    private final List<Byte> tape = new ArrayList<>();
    private byte[] result = new byte[0];
    private final List<List<Integer>> texts = new ArrayList<>();
    private final List<Fact> facts = new ArrayList<>();
    private final List<Special> specials = new ArrayList<>();
    private final Map<String, List<Integer>> folds = new HashMap<>();
    private final List<Property> properties = new ArrayList<>();
    private final Map<List<Integer>, List<Element>> entries = new HashMap<>();
    private final Map<Integer, Fact> factCache = new HashMap<>();
    private final Map<List<Integer>, Integer> pairs = new HashMap<>();
    private int lines;
    private boolean sealed;

    public PlainAtlas() {
        for (int t = 0; t < 8; t++) {
            texts.add(new ArrayList<>());
        }
    }

    // ---- throwing

    private static void range(boolean fits) {
        if (!fits) {
            throw new IllegalArgumentException();
        }
    }

    private static void slot(int... ts) {
        for (int t : ts) {
            range(t >= 0 && t <= 7);
        }
    }

    private void needSealed() {
        if (!sealed) {
            throw new IllegalStateException();
        }
    }

    private static List<Integer> fits(List<Integer> text) {
        if (text.size() > 2000) {
            throw new IndexOutOfBoundsException();
        }
        return text;
    }

    // ---- tape and lines

    public int feed(int a, int b, int c, int d, int e) {
        if (tape.size() + 20 > 4096) {
            throw new IndexOutOfBoundsException();
        }
        for (byte octet : ByteBuffer.allocate(20).putInt(a).putInt(b).putInt(c).putInt(d).putInt(e).array()) {
            tape.add(octet);
        }
        return tape.size();
    }

    public int end(int n) {
        range(n >= 0 && n <= tape.size());
        tape.subList(n, tape.size()).clear();
        return n;
    }

    private byte[] readTape() {
        byte[] bytes = new byte[tape.size()];
        for (int i = 0; i < bytes.length; i++) {
            bytes[i] = tape.get(i);
        }
        tape.clear();
        return bytes;
    }

    public int line(int kind) {
        range(kind >= 0 && kind <= 4);
        if (sealed) {
            throw new IllegalStateException();
        }
        String line = new String(readTape(), StandardCharsets.ISO_8859_1);
        if (!line.matches("[\\t\\x20-\\x7E]*")) {
            throw new UnsupportedOperationException();
        }
        String[] fields = line.replaceFirst("#.*", "").split(";", -1);
        for (int i = 0; i < fields.length; i++) {
            fields[i] = fields[i].replaceFirst("^" + B + "+", "").replaceFirst(B + "+$", "");
        }
        if (fields.length != new int[] {7, 5, 3, 2, 2}[kind]) {
            throw new UnsupportedOperationException();
        }
        int told = switch (kind) {
            case 0 -> fact(fields);
            case 1 -> special(fields);
            case 2 -> fold(fields);
            case 3 -> property(fields);
            default -> entry(fields);
        };
        lines++;
        factCache.clear();
        return told;
    }

    private static void need(boolean holds) {
        if (!holds) {
            throw new UnsupportedOperationException();
        }
    }

    private static int code(String s) {
        need(s.matches(CODE));
        int point = Integer.parseInt(s, 16);
        need(point <= 0x10FFFF);
        return point;
    }

    private static Integer codeOrNothing(String s) {
        return s.isEmpty() ? null : Integer.valueOf(code(s));
    }

    private static Range codes(String s) {
        int dots = s.indexOf("..");
        Range range = dots < 0 ? new Range(code(s), code(s)) : new Range(code(s.substring(0, dots)), code(s.substring(dots + 2)));
        need(range.first <= range.last);
        return range;
    }

    private static List<Integer> row(String s) {
        need(ROW.matcher(s).matches());
        List<Integer> row = new ArrayList<>();
        for (String token : s.split(B + "+")) {
            row.add(code(token));
        }
        return row;
    }

    private static List<Integer> rowOrNothing(String s) {
        return s.isEmpty() ? List.of() : row(s);
    }

    private int fact(String[] f) {
        Range range = codes(f[0]);
        need(f[1].matches("[A-Z][a-z]") && f[2].matches("[0-9]{1,3}") && Integer.parseInt(f[2]) <= 254);
        Matcher tagged = Pattern.compile("<[A-Za-z]+>" + B + "*(.+)").matcher(f[3]);
        boolean compatible = tagged.matches();
        List<Integer> row = f[3].isEmpty() ? null : row(compatible ? tagged.group(1) : f[3]);
        Fact fact = new Fact(range, f[1], Integer.parseInt(f[2]), compatible, row, codeOrNothing(f[4]), codeOrNothing(f[5]),
            codeOrNothing(f[6]));
        need(range.first == range.last || (f[3] + f[4] + f[5] + f[6]).isEmpty());
        facts.add(fact);
        return range.last - range.first + 1;
    }

    private int special(String[] f) {
        List<String> conditions = f[4].isEmpty() ? List.of() : List.of(f[4].split(B + "+"));
        need(CONDITIONS.containsAll(conditions) && new HashSet<>(conditions).size() == conditions.size());
        specials.add(new Special(code(f[0]), rowOrNothing(f[1]), rowOrNothing(f[2]), rowOrNothing(f[3]), conditions));
        return 1;
    }

    private int fold(String[] f) {
        need(f[1].matches("[CFST]"));
        folds.put(code(f[0]) + f[1], row(f[2]));
        return 1;
    }

    private int property(String[] f) {
        Range range = codes(f[0]);
        boolean known = TRAITS.contains(f[1]) || f[1].startsWith("GCB=") && GCB.contains(f[1].substring(4))
            || f[1].startsWith("WB=") && WB.contains(f[1].substring(3));
        need(known);
        properties.add(new Property(range, f[1]));
        return range.last - range.first + 1;
    }

    private int entry(String[] f) {
        List<Integer> row = row(f[0]);
        need(row.size() <= 3);
        need(f[1].matches("(?:" + ELEMENT.pattern() + B + "*){1,18}"));
        List<Element> elements = new ArrayList<>();
        Matcher each = ELEMENT.matcher(f[1]);
        while (each.find()) {
            elements.add(new Element(each.group(1).equals("*"), Integer.parseInt(each.group(2), 16),
                Integer.parseInt(each.group(3), 16), Integer.parseInt(each.group(4), 16)));
        }
        entries.put(row, elements);
        return row.size();
    }

    // ---- what was told

    private static boolean in(Range range, int point) {
        return range.first <= point && point <= range.last;
    }

    private Fact factOf(int point) {
        return factCache.computeIfAbsent(point, p -> {
            Fact found = new Fact(null, "Cn", 0, false, null, null, null, null);
            for (Fact fact : facts) {
                found = in(fact.range, p) ? fact : found;
            }
            return found;
        });
    }

    private int ccc(int point) {
        return factOf(point).ccc;
    }

    private boolean has(int point, String trait) {
        return properties.stream().anyMatch(p -> p.name.equals(trait) && in(p.range, point));
    }

    private String valueOf(int point, String prefix) {
        String found = "Other";
        for (Property p : properties) {
            found = p.name.startsWith(prefix) && in(p.range, point) ? p.name.substring(prefix.length()) : found;
        }
        return found;
    }

    private static boolean isHangul(int point) {
        return point >= 0xAC00 && point <= 0xD7A3;
    }

    private static List<Integer> hangul(int point) {
        int s = point - 0xAC00;
        List<Integer> parts = new ArrayList<>(List.of(0x1100 + s / 588, 0x1161 + s % 588 / 28));
        if (s % 28 != 0) {
            parts.add(0x11A7 + s % 28);
        }
        return parts;
    }

    /** Null if it has no end, or more than 40. */
    private List<Integer> full(int point, boolean compatible, Set<Integer> above) {
        if (isHangul(point)) {
            return hangul(point);
        }
        Fact fact = factOf(point);
        if (fact.row == null || fact.compatible && !compatible) {
            return List.of(point);
        }
        if (above.contains(point)) {
            return null;
        }
        Set<Integer> path = new HashSet<>(above);
        path.add(point);
        List<Integer> all = new ArrayList<>();
        for (int each : fact.row) {
            List<Integer> one = full(each, compatible, path);
            if (one == null) {
                return null;
            }
            all.addAll(one);
        }
        return all.size() > 40 ? null : all;
    }

    private List<Integer> two(int point) {
        Fact fact = factOf(point);
        List<Integer> row = isHangul(point) ? hangul(point) : fact.compatible ? null : fact.row;
        return row != null && row.size() == 2 ? row : null;
    }

    private boolean excluded(int point) {
        List<Integer> two = two(point);
        return has(point, "Composition_Exclusion") || ccc(point) > 0 || two != null && ccc(two.get(0)) > 0;
    }

    private static Integer hangulPair(int a, int b) {
        for (int c : new int[] {0xAC00, 0xAC01}) {
            if (c == 0xAC00 && a >= 0x1100 && a <= 0x1112 && b >= 0x1161 && b <= 0x1175) {
                return 0xAC00 + ((a - 0x1100) * 21 + b - 0x1161) * 28;
            }
            if (c == 0xAC01 && isHangul(a) && hangul(a).size() == 2 && b >= 0x11A8 && b <= 0x11C2) {
                return a + b - 0x11A7;
            }
        }
        return null;
    }

    private boolean sound() {
        pairs.clear();
        Set<Integer> told = new HashSet<>();
        for (Fact fact : facts) {
            if (fact.row != null) {
                told.add(fact.range.first);
            }
        }
        for (int point : told) {
            Fact fact = factOf(point);
            if (fact.row == null) {
                continue;
            }
            if (!fact.compatible && fact.row.size() > 2 || isHangul(point)) {
                return false;
            }
            if (full(point, true, Set.of()) == null || full(point, false, Set.of()) == null) {
                return false;
            }
            if (two(point) != null && !excluded(point)) {
                List<Integer> two = two(point);
                if (hangulPair(two.get(0), two.get(1)) != null || pairs.put(two, point) != null) {
                    return false;
                }
            }
        }
        return true;
    }

    public int seal() {
        if (sealed) {
            throw new IllegalStateException();
        }
        if (!sound()) {
            throw new ArithmeticException();
        }
        sealed = true;
        return pairs.size();
    }

    public int reset() {
        int was = sealed ? 1 : 0;
        facts.clear();
        specials.clear();
        folds.clear();
        properties.clear();
        entries.clear();
        factCache.clear();
        lines = 0;
        sealed = false;
        texts.forEach(List::clear);
        return was;
    }

    // ---- texts

    private int keep(int t, List<Integer> text) {
        texts.set(t, new ArrayList<>(fits(text)));
        return text.size();
    }

    public int text(int t) {
        slot(t);
        byte[] bytes = readTape();
        try {
            String s = StandardCharsets.UTF_8.newDecoder().decode(ByteBuffer.wrap(bytes)).toString();
            return keep(t, s.codePoints().boxed().toList());
        } catch (CharacterCodingException e) {
            throw new UnsupportedOperationException(e);
        }
    }

    public int add(int t, int point) {
        slot(t);
        range(point >= 0 && point <= 0x10FFFF);
        List<Integer> more = new ArrayList<>(texts.get(t));
        more.add(point);
        return keep(t, more);
    }

    public int part(int t, int u, int i, int j) {
        slot(t, u);
        range(0 <= i && i <= j && j <= texts.get(u).size());
        return keep(t, new ArrayList<>(texts.get(u).subList(i, j)));
    }

    public int point(int t, int i) {
        slot(t);
        return texts.get(t).get(i);
    }

    public int size(int t) {
        slot(t);
        return texts.get(t).size();
    }

    // ---- forms

    private List<Integer> form(List<Integer> text, int form) {
        List<Integer> all = new ArrayList<>();
        for (int point : text) {
            all.addAll(full(point, form % 2 == 1, Set.of()));
        }
        fits(all);
        for (boolean again = true; again; ) {
            again = false;
            for (int i = 0; i + 1 < all.size(); i++) {
                int a = ccc(all.get(i));
                int b = ccc(all.get(i + 1));
                if (a > 0 && b > 0 && a > b) {
                    all.add(i, all.remove(i + 1));
                    again = true;
                }
            }
        }
        return form >= 2 ? composed(all) : all;
    }

    private List<Integer> composed(List<Integer> text) {
        List<Integer> kept = new ArrayList<>();
        for (int c : text) {
            int s = kept.size() - 1;
            while (s >= 0 && ccc(kept.get(s)) != 0) {
                s--;
            }
            boolean free = s >= 0;
            for (int k = s + 1; k < kept.size(); k++) {
                free = free && ccc(kept.get(k)) != 0 && ccc(kept.get(k)) < ccc(c);
            }
            Integer composite = free ? hangulPair(kept.get(s), c) : null;
            composite = free && composite == null ? pairs.get(List.of(kept.get(s), c)) : composite;
            if (composite != null) {
                kept.set(s, composite);
            } else {
                kept.add(c);
            }
        }
        return kept;
    }

    public int normal(int t, int u, int form) {
        slot(t, u);
        range(form >= 0 && form <= 3);
        needSealed();
        return keep(t, form(texts.get(u), form));
    }

    public boolean is(int t, int form) {
        slot(t);
        range(form >= 0 && form <= 3);
        needSealed();
        try {
            return form(texts.get(t), form).equals(texts.get(t));
        } catch (IndexOutOfBoundsException e) {
            return false;
        }
    }

    public int join(int t, int u, int v, int form) {
        slot(t, u, v);
        range(form >= 0 && form <= 3);
        needSealed();
        List<Integer> both = new ArrayList<>(texts.get(u));
        both.addAll(texts.get(v));
        return keep(t, form(fits(both), form));
    }

    // ---- case

    private boolean cased(int point) {
        return has(point, "Cased") || List.of("Lu", "Ll", "Lt").contains(factOf(point).category);
    }

    /** From nearest to farthest. */
    private static List<Integer> before(List<Integer> text, int i) {
        List<Integer> all = new ArrayList<>();
        for (int k = i - 1; k >= 0; k--) {
            all.add(text.get(k));
        }
        return all;
    }

    private boolean casedNearest(List<Integer> side) {
        for (int point : side) {
            if (!has(point, "Case_Ignorable")) {
                return cased(point);
            }
        }
        return false;
    }

    private interface Test {
        boolean of(int point);
    }

    private boolean found(List<Integer> side, Test sought, Set<Integer> stops) {
        for (int k = 0; k < side.size(); k++) {
            boolean free = true;
            for (int between : side.subList(0, k)) {
                free = free && !stops.contains(ccc(between));
            }
            if (free && sought.of(side.get(k))) {
                return true;
            }
        }
        return false;
    }

    private boolean holds(String condition, List<Integer> text, int i, int locale) {
        List<Integer> before = before(text, i);
        List<Integer> behind = text.subList(i + 1, text.size());
        boolean dot = found(behind, p -> p == 0x0307, Set.of(0, 230));
        return switch (condition) {
            case "tr" -> locale == 1;
            case "az" -> locale == 2;
            case "lt" -> locale == 3;
            case "Final_Sigma" -> casedNearest(before) && !casedNearest(behind);
            case "After_Soft_Dotted" -> found(before, p -> has(p, "Soft_Dotted"), Set.of(0, 230));
            case "More_Above" -> found(behind, p -> ccc(p) == 230, Set.of(0));
            case "Before_Dot" -> dot;
            case "Not_Before_Dot" -> !dot;
            default -> found(before, p -> p == 0x0049, Set.of(0, 230));
        };
    }

    private List<Integer> cased(List<Integer> text, int i, int kind, int locale) {
        int point = text.get(i);
        if (kind == 3) {
            List<Integer> turkic = locale == 1 || locale == 2 ? folds.get(point + "T") : null;
            List<Integer> full = folds.getOrDefault(point + "F", folds.getOrDefault(point + "C", List.of(point)));
            return turkic != null ? turkic : full;
        }
        Special chosen = null;
        for (Special s : specials) {
            if (s.point == point && s.conditions.isEmpty()) {
                chosen = s;
            }
        }
        for (int k = specials.size() - 1; k >= 0; k--) {
            Special s = specials.get(k);
            if (s.point == point && !s.conditions.isEmpty()
                    && s.conditions.stream().allMatch(c -> holds(c, text, i, locale))) {
                chosen = s;
            }
        }
        if (chosen != null) {
            return kind == 0 ? chosen.lower : kind == 1 ? chosen.upper : chosen.title;
        }
        Fact fact = factOf(point);
        Integer own = kind == 0 ? fact.lower : kind == 1 ? fact.upper : fact.title != null ? fact.title : fact.upper;
        return List.of(own != null ? own : point);
    }

    private List<Integer> changed(List<Integer> text, int kind, int locale) {
        List<Integer> all = new ArrayList<>();
        int start = 0;
        for (int i = 0; i < text.size(); i++) {
            if (kind != 2) {
                all.addAll(cased(text, i, kind, locale));
                continue;
            }
            start = boundary(text, 1, i) ? i : start;
            boolean behind = text.subList(start, i).stream().anyMatch(p -> cased(p));
            if (behind) {
                all.addAll(cased(text, i, 0, locale));
            } else {
                all.addAll(cased(text.get(i)) ? cased(text, i, 2, locale) : List.of(text.get(i)));
            }
        }
        return fits(all);
    }

    public int change(int t, int u, int kind, int locale) {
        slot(t, u);
        range(kind >= 0 && kind <= 3 && locale >= 0 && locale <= 3);
        needSealed();
        return keep(t, changed(texts.get(u), kind, locale));
    }

    private List<Integer> matchable(List<Integer> text, int kind) {
        List<Integer> now = text;
        for (char step : new String[] {"f", "0f0", "0f1f1"}[kind].toCharArray()) {
            now = step == 'f' ? changed(now, 3, 0) : form(now, step - '0');
        }
        return now;
    }

    public boolean match(int t, int u, int kind) {
        slot(t, u);
        range(kind >= 0 && kind <= 2);
        needSealed();
        return matchable(texts.get(t), kind).equals(matchable(texts.get(u), kind));
    }

    // ---- boundaries: a letter for each value, and the rules as regular expressions on both sides

    private static final String GCB_LETTERS = ".rncEJIPSLVTAB";
    private static final String WB_LETTERS = ".rnlEJIFKHamdqsDNxW";

    private static boolean sides(String left, String right, String before, String behind) {
        return Pattern.compile("(?:" + before + ")$").matcher(left).find() && Pattern.compile("^(?:" + behind + ")").matcher(right).find();
    }

    private boolean boundary(List<Integer> text, int kind, int i) {
        if (text.isEmpty()) {
            return false;
        }
        if (i == 0 || i == text.size()) {
            return true;
        }
        StringBuilder values = new StringBuilder();
        StringBuilder pictures = new StringBuilder();
        for (int point : text) {
            String name = valueOf(point, kind == 0 ? "GCB=" : "WB=");
            values.append(kind == 0 ? GCB_LETTERS.charAt(GCB.indexOf(name)) : WB_LETTERS.charAt(WB.indexOf(name)));
            pictures.append(has(point, "Extended_Pictographic") ? '!' : '-');
        }
        return kind == 0 ? grapheme(values.toString(), pictures.toString(), i) : word(values.toString(), pictures.toString(), i);
    }

    private static boolean grapheme(String values, String pictures, int i) {
        String left = values.substring(0, i);
        String right = values.substring(i);
        if (sides(left, right, "r", "n")) {
            return false;
        }
        if (sides(left, right, "[rnc]", "") || sides(left, right, "", "[rnc]")) {
            return true;
        }
        if (sides(left, right, "L", "[LVAB]") || sides(left, right, "[AV]", "[VT]") || sides(left, right, "[BT]", "T")) {
            return false;
        }
        if (sides(left, right, "", "[EJS]") || sides(left, right, "P", "")) {
            return false;
        }
        StringBuilder pairs = new StringBuilder();
        for (int k = 0; k < i; k++) {
            pairs.append(values.charAt(k)).append(pictures.charAt(k));
        }
        if (pictures.charAt(i) == '!' && Pattern.compile("(?:^|[!-])[^!-]!(?:E[!-])*J[!-]$").matcher(pairs).find()) {
            return false;
        }
        return !sides(left, right, "(?<!I)I(?:II)*", "I");
    }

    private static boolean word(String values, String pictures, int i) {
        String left = values.substring(0, i);
        String right = values.substring(i);
        if (sides(left, right, "r", "n")) {
            return false;
        }
        if (sides(left, right, "[rnl]", "") || sides(left, right, "", "[rnl]")) {
            return true;
        }
        if (sides(left, right, "J", "") && pictures.charAt(i) == '!') {
            return false;
        }
        if (sides(left, right, "W", "W") || sides(left, right, "", "[EFJ]")) {
            return false;
        }
        left = left.replaceAll("(?<=[^rnl])[EFJ]+", "");
        right = right.replaceAll("(?<=[^rnl])[EFJ]+", "");
        String[] joins = {"[aH]:[aH]", "[aH]:[mqs][aH]", "[aH][mqs]:[aH]", "H:s", "H:DH", "HD:H", "N:N", "[aH]:N", "N:[aH]",
            "N[dqs]:N", "N:[dqs]N", "K:K", "[aHNKx]:x", "x:[aHNK]", "(?<!I)I(?:II)*:I"};
        for (String join : joins) {
            int colon = join.lastIndexOf(':');
            if (sides(left, right, join.substring(0, colon), join.substring(colon + 1))) {
                return false;
            }
        }
        return true;
    }

    public boolean edge(int t, int kind, int i) {
        slot(t);
        range(kind >= 0 && kind <= 1 && i >= 0 && i <= texts.get(t).size());
        needSealed();
        return boundary(texts.get(t), kind, i);
    }

    public int next(int t, int kind, int i, boolean back) {
        slot(t);
        range(kind >= 0 && kind <= 1 && i >= 0 && i <= texts.get(t).size());
        needSealed();
        for (int k = back ? i - 1 : i + 1; k >= 0 && k <= texts.get(t).size(); k += back ? -1 : 1) {
            if (boundary(texts.get(t), kind, k)) {
                return k;
            }
        }
        return -1;
    }

    // ---- collation

    private List<Element> elements(List<Integer> text) {
        List<Integer> left = new ArrayList<>(form(text, 0));
        List<Element> all = new ArrayList<>();
        while (!left.isEmpty()) {
            List<Integer> s = null;
            for (int n = 1; n <= Math.min(3, left.size()); n++) {
                s = entries.containsKey(left.subList(0, n)) ? new ArrayList<>(left.subList(0, n)) : s;
            }
            if (s == null) {
                int p = left.remove(0);
                int b = has(p, "Unified_Ideograph") ? 0xFB40 : 0xFBC0;
                all.add(new Element(false, b + p / 0x8000, 0x20, 2));
                all.add(new Element(false, p % 0x8000 + 0x8000, 0, 0));
                continue;
            }
            left.subList(0, s.size()).clear();
            List<Integer> passed = new ArrayList<>();
            while (passed.size() < left.size() && ccc(left.get(passed.size())) > 0) {
                int c = left.get(passed.size());
                List<Integer> longer = new ArrayList<>(s);
                longer.add(c);
                if (passed.stream().allMatch(p -> ccc(p) < ccc(c)) && entries.containsKey(longer)) {
                    left.remove(passed.size());
                    s = longer;
                } else {
                    passed.add(c);
                }
            }
            all.addAll(entries.get(s));
        }
        return all;
    }

    private byte[] keyOf(List<Integer> text, int strength, boolean shifted) {
        List<int[]> weights = new ArrayList<>();
        boolean behind = false;
        for (Element e : elements(text)) {
            int[] w = {e.p, e.s, e.t, e.p == 0 && e.s == 0 && e.t == 0 ? 0 : 0xFFFF};
            if (shifted && e.variable && e.p > 0) {
                w = new int[] {0, 0, 0, e.p};
            } else if (shifted && e.p == 0 && behind) {
                w = new int[4];
            }
            behind = e.p == 0 ? behind : e.variable;
            weights.add(w);
        }
        ByteBuffer out = ByteBuffer.allocate(400000);
        for (int level = 0; level < (shifted ? strength : Math.min(3, strength)); level++) {
            if (level > 0) {
                out.putShort((short) 0);
            }
            for (int[] w : weights) {
                if (w[level] != 0) {
                    out.putShort((short) w[level]);
                }
            }
        }
        return Arrays.copyOf(out.array(), out.position());
    }

    public int key(int t, int strength, boolean shifted) {
        slot(t);
        range(strength >= 1 && strength <= 4);
        needSealed();
        byte[] key = keyOf(texts.get(t), strength, shifted);
        if (key.length > 65536) {
            throw new IndexOutOfBoundsException();
        }
        result = key;
        return key.length;
    }

    public int compare(int t, int u, int strength, boolean shifted) {
        slot(t, u);
        range(strength >= 1 && strength <= 4);
        needSealed();
        return Integer.signum(Arrays.compareUnsigned(keyOf(texts.get(t), strength, shifted), keyOf(texts.get(u), strength, shifted)));
    }

    // ---- the rest

    public int about(int point, int what) {
        range(point >= 0 && point <= 0x10FFFF && what >= 0 && what <= 7);
        needSealed();
        int bits = 0;
        for (int k = 0; k < 6; k++) {
            bits |= has(point, TRAITS.get(k)) ? 1 << k : 0;
        }
        boolean second = pairs.keySet().stream().anyMatch(p -> p.get(1) == point);
        return switch (what) {
            case 0 -> factOf(point).category.charAt(0) * 256 + factOf(point).category.charAt(1);
            case 1 -> ccc(point);
            case 2 -> GCB.indexOf(valueOf(point, "GCB="));
            case 3 -> WB.indexOf(valueOf(point, "WB="));
            case 4 -> full(point, false, Set.of()).size();
            case 5 -> full(point, true, Set.of()).size();
            case 6 -> bits;
            default -> (excluded(point) ? 1 : 0) + (second ? 2 : 0);
        };
    }

    public int bytes(int t) {
        slot(t);
        StringBuilder s = new StringBuilder();
        for (int point : texts.get(t)) {
            if (point >= 0xD800 && point <= 0xDFFF) {
                throw new UnsupportedOperationException();
            }
            s.appendCodePoint(point);
        }
        result = s.toString().getBytes(StandardCharsets.UTF_8);
        return result.length;
    }

    public long word(int i) {
        if (i < 0 || i >= result.length) {
            throw new IndexOutOfBoundsException();
        }
        return ByteBuffer.wrap(Arrays.copyOfRange(result, i, i + 8)).getLong();
    }

    public int count(int what) {
        range(what >= 0 && what <= 3);
        return new int[] {tape.size(), result.length, lines, sealed ? 1 : 0}[what];
    }
}
