/**
 * Text as Unicode has it, driven by data that come line by line: normal forms, case with its
 * conditions, folding and matching, graphemes and words, and collation with keys.
 */
public final class TextAtlas {
    private static final int LAST_POINT = 0x10FFFF;
    private static final int POINT_BITS = 21;
    private static final int POINT_MASK = 0x1FFFFF;
    private static final int MOST_POINTS = 2000;
    private static final int SLOT_COUNT = 8;
    private static final int TAPE_BYTES = 4096;
    private static final int RESULT_BYTES = 65536;
    private static final int NONE = -1;

    // 512 calls bring at most 256 LINES, since each of them needs a feed of its own.
    private static final int MOST_LINES = 256;
    private static final int MOST_SPANS = 2 * MOST_LINES + 1;
    private static final int MOST_IN_ROW = 18;
    private static final int MOST_IN_FULL = 40;

    private static final int NFD = 0;
    private static final int NFKD = 1;
    private static final int NFC = 2;
    private static final int NFKC = 3;

    private static final int LOWER = 0;
    private static final int UPPER = 1;
    private static final int TITLE = 2;
    private static final int FOLD = 3;

    private static final int GRAPHEMES = 0;
    private static final int WORDS = 1;
    private static final int TRAIT = 2;

    private static final String TRAIT_NAMES =
        "Composition_Exclusion Case_Ignorable Cased Soft_Dotted Extended_Pictographic Unified_Ideograph";
    private static final int COMPOSITION_EXCLUSION = 1;
    private static final int CASE_IGNORABLE = 2;
    private static final int CASED = 4;
    private static final int SOFT_DOTTED = 8;
    private static final int EXTENDED_PICTOGRAPHIC = 16;
    private static final int UNIFIED_IDEOGRAPH = 32;

    private final byte[] tape = new byte[TAPE_BYTES];
    private int tapeLength;
    private final byte[] result = new byte[RESULT_BYTES];
    private int resultLength;
    private final Text[] slots = new Text[SLOT_COUNT];
    private final Text made = new Text();
    private final Text spare = new Text();
    private final Text other = new Text();
    private final Data data = new Data();
    private final Reader reader = new Reader(tape, data);
    private final Decompositions decompositions = new Decompositions(data);
    private final Forms forms = new Forms(data, decompositions);
    private final Breaks breaks = new Breaks(data);
    private final Casing casing = new Casing(data, breaks);
    private final Collation left = new Collation(data, forms);
    private final Collation right = new Collation(data, forms);

    public TextAtlas() {
        for (int t = 0; t < SLOT_COUNT; t++) {
            slots[t] = new Text();
        }
    }

    public int feed(int a, int b, int c, int d, int e) throws IndexOutOfBoundsException {
        if (tapeLength + 20 > TAPE_BYTES) {
            throw new IndexOutOfBoundsException();
        }
        feedInt(a);
        feedInt(b);
        feedInt(c);
        feedInt(d);
        feedInt(e);
        return tapeLength;
    }

    public int end(int n) throws IllegalArgumentException {
        requireRange(n, 0, tapeLength);
        tapeLength = n;
        return n;
    }

    public int line(int kind)
            throws IllegalArgumentException, IllegalStateException, UnsupportedOperationException {
        requireRange(kind, 0, 4);
        requireOpen();
        int length = tapeLength;
        tapeLength = 0;
        int told = reader.take(kind, length);
        if (told == NONE) {
            throw new UnsupportedOperationException();
        }
        return told;
    }

    public int seal() throws IllegalStateException, ArithmeticException {
        requireOpen();
        if (!decompositions.prepare()) {
            throw new ArithmeticException();
        }
        data.sealed = true;
        return decompositions.pairCount;
    }

    public int reset() {
        int before = data.sealed ? 1 : 0;
        data.clear();
        for (int t = 0; t < SLOT_COUNT; t++) {
            slots[t].length = 0;
        }
        return before;
    }

    public int text(int t)
            throws IllegalArgumentException, UnsupportedOperationException, IndexOutOfBoundsException {
        requireSlot(t);
        int length = tapeLength;
        tapeLength = 0;
        int points = pointsOnTape(length);
        if (points == NONE) {
            throw new UnsupportedOperationException();
        }
        if (points > MOST_POINTS) {
            throw new IndexOutOfBoundsException();
        }
        readTape(slots[t], points, length);
        return points;
    }

    public int add(int t, int point) throws IllegalArgumentException, IndexOutOfBoundsException {
        requireSlot(t);
        requireRange(point, 0, LAST_POINT);
        requireRoom(slots[t].append(point));
        return slots[t].length;
    }

    public int part(int t, int u, int i, int j) throws IllegalArgumentException {
        requireSlot(t);
        requireSlot(u);
        requireRange(j, 0, slots[u].length);
        requireRange(i, 0, j);
        slots[t].takePart(slots[u], i, j);
        return slots[t].length;
    }

    public int point(int t, int i) throws IllegalArgumentException, IndexOutOfBoundsException {
        requireSlot(t);
        requireRoom(i >= 0 && i < slots[t].length);
        return slots[t].points[i];
    }

    public int size(int t) throws IllegalArgumentException {
        requireSlot(t);
        return slots[t].length;
    }

    public int normal(int t, int u, int form)
            throws IllegalArgumentException, IllegalStateException, IndexOutOfBoundsException {
        requireSlot(t);
        requireSlot(u);
        requireRange(form, NFD, NFKC);
        requireSealed();
        requireRoom(forms.convert(slots[u], made, form));
        return keepMade(t);
    }

    public boolean is(int t, int form) throws IllegalArgumentException, IllegalStateException {
        requireSlot(t);
        requireRange(form, NFD, NFKC);
        requireSealed();
        return forms.convert(slots[t], made, form) && made.sameAs(slots[t]);
    }

    public int join(int t, int u, int v, int form)
            throws IllegalArgumentException, IllegalStateException, IndexOutOfBoundsException {
        requireSlot(t);
        requireSlot(u);
        requireSlot(v);
        requireRange(form, NFD, NFKC);
        requireSealed();
        requireRoom(forms.convertTwo(slots[u], slots[v], made, form));
        return keepMade(t);
    }

    public int change(int t, int u, int kind, int locale)
            throws IllegalArgumentException, IllegalStateException, IndexOutOfBoundsException {
        requireSlot(t);
        requireSlot(u);
        requireRange(kind, LOWER, FOLD);
        requireRange(locale, 0, 3);
        requireSealed();
        boolean fits = kind == FOLD
            ? casing.fold(slots[u], made, locale) : casing.convert(slots[u], made, kind, locale);
        requireRoom(fits);
        return keepMade(t);
    }

    public boolean match(int t, int u, int kind)
            throws IllegalArgumentException, IllegalStateException, IndexOutOfBoundsException {
        requireSlot(t);
        requireSlot(u);
        requireRange(kind, 0, 2);
        requireSealed();
        requireRoom(foldForMatch(slots[t], made, kind));
        requireRoom(foldForMatch(slots[u], other, kind));
        return made.sameAs(other);
    }

    public boolean edge(int t, int kind, int i) throws IllegalArgumentException, IllegalStateException {
        requirePlace(t, kind, i);
        requireSealed();
        breaks.load(slots[t], kind);
        return breaks.isBoundary(i);
    }

    public int next(int t, int kind, int i, boolean back)
            throws IllegalArgumentException, IllegalStateException {
        requirePlace(t, kind, i);
        requireSealed();
        breaks.load(slots[t], kind);
        return back ? breaks.lastBefore(i) : breaks.firstBehind(i);
    }

    public int key(int t, int strength, boolean shifted)
            throws IllegalArgumentException, IllegalStateException, IndexOutOfBoundsException {
        requireSlot(t);
        requireRange(strength, 1, 4);
        requireSealed();
        requireRoom(left.build(slots[t], shifted));
        int levels = levelsOf(strength, shifted);
        int length = left.keyLength(levels);
        requireRoom(length <= RESULT_BYTES);
        left.writeKey(result, levels);
        resultLength = length;
        return length;
    }

    public int compare(int t, int u, int strength, boolean shifted)
            throws IllegalArgumentException, IllegalStateException, IndexOutOfBoundsException {
        requireSlot(t);
        requireSlot(u);
        requireRange(strength, 1, 4);
        requireSealed();
        requireRoom(left.build(slots[t], shifted));
        requireRoom(right.build(slots[u], shifted));
        return left.orderAgainst(right, levelsOf(strength, shifted));
    }

    public int about(int point, int what) throws IllegalArgumentException, IllegalStateException {
        requireRange(point, 0, LAST_POINT);
        requireRange(what, 0, 7);
        requireSealed();
        Span span = data.spanOf(point);
        switch (what) {
            case 0: return span.fact.category;
            case 1: return span.fact.combiningClass;
            case 2: return span.graphemeBreak;
            case 3: return span.wordBreak;
            case 4: return decompositions.fullLength(point, false);
            case 5: return decompositions.fullLength(point, true);
            case 6: return span.traits;
            default: return decompositions.pairRole(point);
        }
    }

    public int bytes(int t) throws IllegalArgumentException, UnsupportedOperationException {
        requireSlot(t);
        Text source = slots[t];
        if (holdsSurrogate(source)) {
            throw new UnsupportedOperationException();
        }
        resultLength = 0;
        for (int i = 0; i < source.length; i++) {
            writeUtf8(source.points[i]);
        }
        return resultLength;
    }

    public long word(int i) throws IndexOutOfBoundsException {
        requireRoom(i >= 0 && i < resultLength);
        long value = 0;
        for (int k = 0; k < 8; k++) {
            int octet = i + k < resultLength ? result[i + k] & 0xFF : 0;
            value = value << 8 | octet;
        }
        return value;
    }

    public int count(int what) throws IllegalArgumentException {
        requireRange(what, 0, 3);
        switch (what) {
            case 0: return tapeLength;
            case 1: return resultLength;
            case 2: return data.lines;
            default: return data.sealed ? 1 : 0;
        }
    }

    private static void requireRange(int value, int low, int high) {
        if (value < low || value > high) {
            throw new IllegalArgumentException();
        }
    }

    private static void requireSlot(int t) {
        requireRange(t, 0, SLOT_COUNT - 1);
    }

    private void requirePlace(int t, int kind, int i) {
        requireSlot(t);
        requireRange(kind, GRAPHEMES, WORDS);
        requireRange(i, 0, slots[t].length);
    }

    private void requireSealed() {
        if (!data.sealed) {
            throw new IllegalStateException();
        }
    }

    private void requireOpen() {
        if (data.sealed) {
            throw new IllegalStateException();
        }
    }

    private static void requireRoom(boolean fits) {
        if (!fits) {
            throw new IndexOutOfBoundsException();
        }
    }

    private void feedInt(int value) {
        for (int shift = 24; shift >= 0; shift -= 8) {
            tape[tapeLength] = (byte) (value >>> shift);
            tapeLength++;
        }
    }

    private int keepMade(int t) {
        slots[t].takePart(made, 0, made.length);
        return slots[t].length;
    }

    private boolean foldForMatch(Text from, Text to, int kind) {
        if (kind == 0) {
            return casing.fold(from, to, 0);
        }
        int form = kind == 1 ? NFD : NFKD;
        boolean fits = forms.convert(from, to, NFD);
        for (int turn = 0; turn < kind && fits; turn++) {
            fits = casing.fold(to, spare, 0) && forms.convert(spare, to, form);
        }
        return fits;
    }

    private static int levelsOf(int strength, boolean shifted) {
        return shifted ? strength : Math.min(strength, 3);
    }

    private int pointsOnTape(int length) {
        int points = 0;
        int at = 0;
        for (; at < length && points < TAPE_BYTES; points++) {
            int point = decodeAt(at, length);
            if (point == NONE) {
                return NONE;
            }
            at += utf8Width(point);
        }
        return points;
    }

    private void readTape(Text to, int points, int length) {
        int at = 0;
        to.length = 0;
        for (int i = 0; i < points; i++) {
            int point = decodeAt(at, length);
            to.append(point);
            at += utf8Width(point);
        }
    }

    private int decodeAt(int at, int length) {
        int lead = at < length ? tape[at] & 0xFF : 0xFF;
        if (lead < 0x80) {
            return lead;
        }
        int trail = lead >= 0xF0 ? 3 : lead >= 0xE0 ? 2 : 1;
        if (lead < 0xC0 || lead > 0xF7 || at + trail >= length) {
            return NONE;
        }
        int point = lead & (0x3F >> trail);
        for (int k = 1; k <= trail; k++) {
            int octet = tape[at + k] & 0xFF;
            if ((octet & 0xC0) != 0x80) {
                return NONE;
            }
            point = point << 6 | octet & 0x3F;
        }
        boolean allowed = point <= LAST_POINT && !isSurrogate(point) && utf8Width(point) == trail + 1;
        return allowed ? point : NONE;
    }

    private static int utf8Width(int point) {
        if (point < 0x80) {
            return 1;
        }
        if (point < 0x800) {
            return 2;
        }
        return point < 0x10000 ? 3 : 4;
    }

    private static boolean isSurrogate(int point) {
        return point >= 0xD800 && point <= 0xDFFF;
    }

    private static boolean holdsSurrogate(Text text) {
        for (int i = 0; i < text.length; i++) {
            if (isSurrogate(text.points[i])) {
                return true;
            }
        }
        return false;
    }

    private void writeUtf8(int point) {
        int width = utf8Width(point);
        int lead = width == 1 ? 0 : 0xF00 >> width & 0xFF;
        for (int k = 0; k < width; k++) {
            int octet = point >>> 6 * (width - 1 - k);
            octet = k == 0 ? lead | octet : 0x80 | octet & 0x3F;
            result[resultLength] = (byte) octet;
            resultLength++;
        }
    }

    /** How many of the sorted ones are below the one sought. */
    private static int placeOf(long sought, long[] sorted, int many) {
        int low = 0;
        int high = many;
        while (low < high) {
            int middle = (low + high) >>> 1;
            if (sorted[middle] < sought) {
                low = middle + 1;
            } else {
                high = middle;
            }
        }
        return low;
    }

    /** A row of POINTS with the document's bound. */
    private static final class Text {
        final int[] points = new int[MOST_POINTS];
        int length;

        boolean append(int point) {
            if (length >= MOST_POINTS) {
                return false;
            }
            points[length] = point;
            length++;
            return true;
        }

        boolean appendRow(int[] row, int from, int many) {
            if (length + many > MOST_POINTS) {
                return false;
            }
            for (int k = 0; k < many; k++) {
                points[length + k] = row[from + k];
            }
            length += many;
            return true;
        }

        void takePart(Text from, int i, int j) {
            System.arraycopy(from.points, i, points, 0, j - i);
            length = j - i;
        }

        boolean sameAs(Text that) {
            if (length != that.length) {
                return false;
            }
            for (int i = 0; i < length; i++) {
                if (points[i] != that.points[i]) {
                    return false;
                }
            }
            return true;
        }
    }

    /** What a LINE 0 tells of each of its POINTS. */
    private static final class Fact {
        int first;
        int category = 'C' * 256 + 'n';
        int combiningClass;
        int[] row;
        boolean compatible;
        int upper = NONE;
        int lower = NONE;
        int title = NONE;
        int visit;
        int canonicalAt;
        int canonicalLength;
        int compatibleAt;
        int compatibleLength;
    }

    /** A LINE 1; those for one POINT make a chain in the order told. */
    private static final class Special {
        int conditions;
        int[] lower;
        int[] title;
        int[] upper;
        Special later;

        int[] rowFor(int kind) {
            if (kind == LOWER) {
                return lower;
            }
            return kind == UPPER ? upper : title;
        }
    }

    /** A LINE 4; its ROW is packed into a number, and how many POINTS that has is kept here. */
    private static final class Entry {
        int length;
        long[] elements;
    }

    /** Neighbouring POINTS, from first on, of which the same was told. */
    private static final class Span {
        int first;
        Fact fact;
        int traits;
        int graphemeBreak;
        int wordBreak;
        int[] foldCommon;
        int[] foldFull;
        int[] foldTurkic;
        Special special;

        void copyFrom(Span that) {
            fact = that.fact;
            traits = that.traits;
            graphemeBreak = that.graphemeBreak;
            wordBreak = that.wordBreak;
            foldCommon = that.foldCommon;
            foldFull = that.foldFull;
            foldTurkic = that.foldTurkic;
            special = that.special;
        }

        void becomeUntold(Fact untold) {
            first = 0;
            fact = untold;
            traits = 0;
            graphemeBreak = 0;
            wordBreak = 0;
            foldCommon = null;
            foldFull = null;
            foldTurkic = null;
            special = null;
        }

        void setProperty(int group, int name) {
            if (group == TRAIT) {
                traits |= 1 << name;
            } else if (group == GRAPHEMES) {
                graphemeBreak = name;
            } else {
                wordBreak = name;
            }
        }

        boolean hasTrait(int trait) {
            return (traits & trait) != 0;
        }
    }

    /** DATA: all POINTS as spans in order, and the rows of collation in order. */
    private static final class Data {
        final Span[] spans = new Span[MOST_SPANS];
        int spanCount;
        // Sorted; packed so that a longer row comes right behind its beginnings.
        final long[] rows = new long[MOST_LINES];
        final Entry[] entries = new Entry[MOST_LINES];
        int entryCount;
        int lines;
        boolean sealed;
        private final Fact untold = new Fact();

        Data() {
            for (int i = 0; i < MOST_SPANS; i++) {
                spans[i] = new Span();
                spans[i].becomeUntold(untold);
            }
            spanCount = 1;
        }

        void clear() {
            spans[0].becomeUntold(untold);
            spanCount = 1;
            entryCount = 0;
            lines = 0;
            sealed = false;
        }

        Span spanOf(int point) {
            return spans[spanIndex(point)];
        }

        int classOf(int point) {
            return spans[spanIndex(point)].fact.combiningClass;
        }

        int spanIndex(int point) {
            int low = 0;
            int high = spanCount - 1;
            while (low < high) {
                int middle = (low + high + 1) >>> 1;
                if (spans[middle].first <= point) {
                    low = middle;
                } else {
                    high = middle - 1;
                }
            }
            return low;
        }

        /** The index of the span that begins with the POINT, made by a cut if there was none. */
        private int cutBefore(int point) {
            if (point > LAST_POINT) {
                return spanCount;
            }
            int index = spanIndex(point);
            if (spans[index].first == point || spanCount >= MOST_SPANS) {
                return index;
            }
            Span fresh = spans[spanCount];
            for (int i = spanCount; i > index + 1; i--) {
                spans[i] = spans[i - 1];
            }
            fresh.copyFrom(spans[index]);
            fresh.first = point;
            spans[index + 1] = fresh;
            spanCount++;
            return index + 1;
        }

        private Span onlySpanOf(int point) {
            int index = cutBefore(point);
            cutBefore(point + 1);
            return spans[index];
        }

        void tellFact(int first, int last, Fact fact) {
            int from = cutBefore(first);
            int to = cutBefore(last + 1);
            for (int i = from; i < to; i++) {
                spans[i].fact = fact;
            }
        }

        void tellProperty(int first, int last, int group, int name) {
            int from = cutBefore(first);
            int to = cutBefore(last + 1);
            for (int i = from; i < to; i++) {
                spans[i].setProperty(group, name);
            }
        }

        void tellSpecial(int point, Special special) {
            Span span = onlySpanOf(point);
            if (span.special == null) {
                span.special = special;
                return;
            }
            Special tail = span.special;
            while (tail.later != null) {
                tail = tail.later;
            }
            tail.later = special;
        }

        void tellFold(int point, int letter, int[] row) {
            Span span = onlySpanOf(point);
            if (letter == 'C') {
                span.foldCommon = row;
            } else if (letter == 'F') {
                span.foldFull = row;
            } else if (letter == 'T') {
                span.foldTurkic = row;
            }
        }

        void tellEntry(long row, Entry entry) {
            int place = placeOf(row, rows, entryCount);
            if (place < entryCount && rows[place] == row) {
                entries[place] = entry;
                return;
            }
            if (entryCount >= MOST_LINES) {
                return;
            }
            for (int i = entryCount; i > place; i--) {
                rows[i] = rows[i - 1];
                entries[i] = entries[i - 1];
            }
            rows[place] = row;
            entries[place] = entry;
            entryCount++;
        }

        int entryIndex(long row) {
            int place = placeOf(row, rows, entryCount);
            return place < entryCount && rows[place] == row ? place : NONE;
        }

        boolean hasLonger(int index) {
            if (index + 1 >= entryCount) {
                return false;
            }
            int rest = POINT_BITS * (3 - entries[index].length);
            return rest > 0 && rows[index] >>> rest == rows[index + 1] >>> rest;
        }

        /** A packed row with one POINT more at a place 0 .. 2; POINT 0 is kept apart from nothing. */
        static long packAt(long row, int place, int point) {
            return row | (long) (point + 1) << POINT_BITS * (2 - place);
        }
    }

    /** Reads a LINE from the tape and tells DATA what it says. */
    private static final class Reader {
        private static final int MOST_FIELDS = 7;
        private static final int ELEMENT_BYTES = 17;
        // No element reads so, as its lowest 16 bits are 0 or 1.
        private static final long NO_ELEMENT = -1L;
        private static final String GRAPHEME_NAMES =
            "Other CR LF Control Extend ZWJ Regional_Indicator Prepend SpacingMark L V T LV LVT";
        private static final String WORD_NAMES =
            "Other CR LF Newline Extend ZWJ Regional_Indicator Format Katakana Hebrew_Letter ALetter MidLetter MidNum MidNumLet Single_Quote Double_Quote Numeric ExtendNumLet WSegSpace";
        private static final String CONDITION_NAMES =
            "tr az lt Final_Sigma After_Soft_Dotted More_Above Before_Dot Not_Before_Dot After_I";

        private final byte[] tape;
        private final Data data;
        private final int[] from = new int[MOST_FIELDS];
        private final int[] to = new int[MOST_FIELDS];
        private int first;
        private int last;

        Reader(byte[] tape, Data data) {
            this.tape = tape;
            this.data = data;
        }

        /** How many POINTS the LINE tells of, or NONE if it is none. */
        int take(int kind, int length) {
            if (data.lines >= MOST_LINES || !split(length, fieldsOf(kind))) {
                return NONE;
            }
            int told;
            switch (kind) {
                case 0: told = takeFact(); break;
                case 1: told = takeSpecial(); break;
                case 2: told = takeFold(); break;
                case 3: told = takeProperty(); break;
                default: told = takeEntry(); break;
            }
            data.lines += told != NONE ? 1 : 0;
            return told;
        }

        private static int fieldsOf(int kind) {
            switch (kind) {
                case 0: return 7;
                case 1: return 5;
                case 2: return 3;
                default: return 2;
            }
        }

        private boolean split(int length, int wanted) {
            if (!isPlain(length)) {
                return false;
            }
            int stop = commentStart(length);
            int fields = 0;
            int begin = 0;
            for (int i = 0; i <= stop; i++) {
                if (i == stop || tape[i] == ';') {
                    if (fields >= wanted) {
                        return false;
                    }
                    trim(fields, begin, i);
                    fields++;
                    begin = i + 1;
                }
            }
            return fields == wanted;
        }

        private boolean isPlain(int length) {
            for (int i = 0; i < length; i++) {
                if (tape[i] != 9 && (tape[i] < 32 || tape[i] > 126)) {
                    return false;
                }
            }
            return true;
        }

        private int commentStart(int length) {
            for (int i = 0; i < length; i++) {
                if (tape[i] == '#') {
                    return i;
                }
            }
            return length;
        }

        private void trim(int field, int begin, int stop) {
            int low = skipBlanks(begin, stop);
            int high = stop;
            while (high > low && isBlank(high - 1)) {
                high--;
            }
            from[field] = low;
            to[field] = high;
        }

        private boolean isBlank(int at) {
            return tape[at] == 9 || tape[at] == 32;
        }

        private int skipBlanks(int begin, int stop) {
            int at = begin;
            while (at < stop && isBlank(at)) {
                at++;
            }
            return at;
        }

        private int skipToken(int begin, int stop) {
            int at = begin;
            while (at < stop && !isBlank(at)) {
                at++;
            }
            return at;
        }

        private boolean isEmptyField(int field) {
            return from[field] == to[field];
        }

        private int takeFact() {
            Fact fact = new Fact();
            if (!readCodes() || !readCategory(fact) || !readClass(fact) || !readDecomposition(fact)) {
                return NONE;
            }
            if (!isCodeOrNothing(4) || !isCodeOrNothing(5) || !isCodeOrNothing(6)) {
                return NONE;
            }
            fact.upper = readCode(from[4], to[4]);
            fact.lower = readCode(from[5], to[5]);
            fact.title = readCode(from[6], to[6]);
            if (first < last && !(isEmptyField(3) && isEmptyField(4) && isEmptyField(5) && isEmptyField(6))) {
                return NONE;
            }
            fact.first = first;
            data.tellFact(first, last, fact);
            return last - first + 1;
        }

        private boolean readCategory(Fact fact) {
            int at = from[1];
            if (to[1] - at != 2) {
                return false;
            }
            fact.category = tape[at] * 256 + tape[at + 1];
            return tape[at] >= 'A' && tape[at] <= 'Z' && tape[at + 1] >= 'a' && tape[at + 1] <= 'z';
        }

        private boolean readClass(Fact fact) {
            int digits = to[2] - from[2];
            if (digits < 1 || digits > 3) {
                return false;
            }
            int value = 0;
            for (int i = from[2]; i < to[2]; i++) {
                if (tape[i] < '0' || tape[i] > '9') {
                    return false;
                }
                value = value * 10 + tape[i] - '0';
            }
            fact.combiningClass = value;
            return value <= 254;
        }

        private boolean readDecomposition(Fact fact) {
            if (isEmptyField(3)) {
                return true;
            }
            int begin = from[3];
            if (tape[begin] == '<') {
                int close = skipLetters(begin + 1, to[3]);
                if (close == begin + 1 || close == to[3] || tape[close] != '>') {
                    return false;
                }
                fact.compatible = true;
                begin = close + 1;
            }
            fact.row = readRow(begin, to[3], MOST_IN_ROW);
            return fact.row != null;
        }

        private int skipLetters(int begin, int stop) {
            int at = begin;
            while (at < stop && isLetter(tape[at])) {
                at++;
            }
            return at;
        }

        private static boolean isLetter(int octet) {
            return octet >= 'A' && octet <= 'Z' || octet >= 'a' && octet <= 'z';
        }

        private int takeSpecial() {
            Special special = new Special();
            special.lower = readRowOrNothing(1);
            special.title = readRowOrNothing(2);
            special.upper = readRowOrNothing(3);
            special.conditions = readConditions(from[4], to[4]);
            int point = readCode(from[0], to[0]);
            if (point == NONE || special.conditions == NONE) {
                return NONE;
            }
            if (special.lower == null || special.title == null || special.upper == null) {
                return NONE;
            }
            data.tellSpecial(point, special);
            return 1;
        }

        private int readConditions(int begin, int stop) {
            int many = countTokens(begin, stop);
            int conditions = 0;
            int at = begin;
            for (int k = 0; k < many; k++) {
                int tokenStop = skipToken(at, stop);
                int name = nameIndex(CONDITION_NAMES, at, tokenStop);
                if (name == NONE || (conditions >> name & 1) != 0) {
                    return NONE;
                }
                conditions |= 1 << name;
                at = skipBlanks(tokenStop, stop);
            }
            return conditions;
        }

        private int takeFold() {
            int point = readCode(from[0], to[0]);
            int[] row = readRow(from[2], to[2], MOST_IN_ROW);
            if (point == NONE || row == null || to[1] - from[1] != 1) {
                return NONE;
            }
            int letter = tape[from[1]];
            if (letter != 'C' && letter != 'F' && letter != 'S' && letter != 'T') {
                return NONE;
            }
            data.tellFold(point, letter, row);
            return 1;
        }

        private int takeProperty() {
            if (!readCodes()) {
                return NONE;
            }
            int group = TRAIT;
            int name = nameIndex(TRAIT_NAMES, from[1], to[1]);
            if (startsWith("GCB=", from[1], to[1])) {
                group = GRAPHEMES;
                name = nameIndex(GRAPHEME_NAMES, from[1] + 4, to[1]);
            } else if (startsWith("WB=", from[1], to[1])) {
                group = WORDS;
                name = nameIndex(WORD_NAMES, from[1] + 3, to[1]);
            }
            if (name == NONE) {
                return NONE;
            }
            data.tellProperty(first, last, group, name);
            return last - first + 1;
        }

        private boolean startsWith(String mark, int begin, int stop) {
            int markStop = begin + mark.length();
            return markStop <= stop && reads(mark, 0, mark.length(), begin, markStop);
        }

        /** Which of the names, told with a blank between, stands on the tape from begin to stop. */
        private int nameIndex(String names, int begin, int stop) {
            int index = 0;
            int start = 0;
            for (int i = 0; i <= names.length(); i++) {
                if (i == names.length() || names.charAt(i) == ' ') {
                    if (reads(names, start, i, begin, stop)) {
                        return index;
                    }
                    index++;
                    start = i + 1;
                }
            }
            return NONE;
        }

        private boolean reads(String names, int start, int finish, int begin, int stop) {
            if (finish - start != stop - begin) {
                return false;
            }
            for (int k = 0; k < stop - begin; k++) {
                if (names.charAt(start + k) != tape[begin + k]) {
                    return false;
                }
            }
            return true;
        }

        private int takeEntry() {
            int[] row = readRow(from[0], to[0], 3);
            long[] elements = readElements(from[1], to[1]);
            if (row == null || elements == null) {
                return NONE;
            }
            long packed = 0;
            for (int k = 0; k < row.length; k++) {
                packed = Data.packAt(packed, k, row[k]);
            }
            Entry entry = new Entry();
            entry.length = row.length;
            entry.elements = elements;
            data.tellEntry(packed, entry);
            return row.length;
        }

        private long[] readElements(int begin, int stop) {
            int many = countElements(begin, stop);
            if (many < 1 || many > MOST_IN_ROW) {
                return null;
            }
            long[] elements = new long[many];
            int at = begin;
            for (int k = 0; k < many; k++) {
                elements[k] = readElement(at);
                at = skipBlanks(at + ELEMENT_BYTES, stop);
            }
            return elements;
        }

        /** How many ELEMENTS there are, or NONE if anything else is there. */
        private int countElements(int begin, int stop) {
            int many = 0;
            int at = begin;
            while (at < stop) {
                if (stop - at < ELEMENT_BYTES || readElement(at) == NO_ELEMENT) {
                    return NONE;
                }
                many++;
                at = skipBlanks(at + ELEMENT_BYTES, stop);
            }
            return many;
        }

        private long readElement(int at) {
            boolean variable = tape[at + 1] == '*';
            boolean framed = tape[at] == '[' && (variable || tape[at + 1] == '.') && tape[at + 6] == '.'
                && tape[at + 11] == '.' && tape[at + 16] == ']';
            int primary = readHex(at + 2, at + 6);
            int secondary = readHex(at + 7, at + 11);
            int tertiary = readHex(at + 12, at + 16);
            if (!framed || primary == NONE || secondary == NONE || tertiary == NONE) {
                return NO_ELEMENT;
            }
            return (long) primary << 48 | (long) secondary << 32 | (long) tertiary << 16 | (variable ? 1 : 0);
        }

        private int readHex(int begin, int stop) {
            int value = 0;
            for (int i = begin; i < stop; i++) {
                int octet = tape[i];
                if (octet >= '0' && octet <= '9') {
                    value = value * 16 + octet - '0';
                } else if (octet >= 'A' && octet <= 'F') {
                    value = value * 16 + octet - 'A' + 10;
                } else {
                    return NONE;
                }
            }
            return value;
        }

        private int readCode(int begin, int stop) {
            int digits = stop - begin;
            if (digits < 4 || digits > 6 || digits > 4 && tape[begin] == '0') {
                return NONE;
            }
            int point = readHex(begin, stop);
            return point <= LAST_POINT ? point : NONE;
        }

        private boolean isCodeOrNothing(int field) {
            return isEmptyField(field) || readCode(from[field], to[field]) != NONE;
        }

        /** The CODES of the first field, as first and last. */
        private boolean readCodes() {
            int dots = from[0];
            while (dots < to[0] && tape[dots] != '.') {
                dots++;
            }
            first = readCode(from[0], dots);
            last = first;
            if (dots < to[0]) {
                boolean two = dots + 1 < to[0] && tape[dots + 1] == '.';
                last = two ? readCode(dots + 2, to[0]) : NONE;
            }
            return first != NONE && first <= last;
        }

        private int[] readRowOrNothing(int field) {
            return isEmptyField(field) ? new int[0] : readRow(from[field], to[field], MOST_IN_ROW);
        }

        private int[] readRow(int begin, int stop, int most) {
            int many = countTokens(begin, stop);
            if (many < 1 || many > most) {
                return null;
            }
            int[] row = new int[many];
            int at = begin;
            for (int k = 0; k < many; k++) {
                at = skipBlanks(at, stop);
                int tokenStop = skipToken(at, stop);
                row[k] = readCode(at, tokenStop);
                if (row[k] == NONE) {
                    return null;
                }
                at = tokenStop;
            }
            return row;
        }

        private int countTokens(int begin, int stop) {
            int many = 0;
            for (int i = begin; i < stop; i++) {
                if (!isBlank(i) && (i == begin || isBlank(i - 1))) {
                    many++;
                }
            }
            return many;
        }
    }

    /** FULL DECOMPOSITIONS and PAIRS, made when DATA are sealed. */
    private static final class Decompositions {
        private static final int FIRST_SYLLABLE = 0xAC00;
        private static final int LAST_SYLLABLE = 0xD7A3;
        private static final int VOWEL_BLOCK = 588;
        private static final int TAIL_BLOCK = 28;
        private static final int UNSEEN = 0;
        private static final int OPEN = 1;
        private static final int CLOSED = 2;
        private static final int FAR_MORE_STEPS_THAN_NEEDED = 1000000;

        private final Data data;
        private final int[] pool = new int[2 * MOST_IN_FULL * MOST_LINES];
        private int used;
        private final Fact[] path = new Fact[MOST_LINES];
        private final int[] places = new int[MOST_LINES];
        private int depth;
        private final long[] pairs = new long[MOST_LINES];
        private final int[] composites = new int[MOST_LINES];
        int pairCount;

        Decompositions(Data data) {
            this.data = data;
        }

        /** Whether DATA are SOUND; if so all is ready. */
        boolean prepare() {
            used = 0;
            pairCount = 0;
            if (!checkShapes()) {
                return false;
            }
            for (int i = 0; i < data.spanCount; i++) {
                Fact fact = data.spans[i].fact;
                if (fact.row != null && fact.visit == UNSEEN && !expandFrom(fact)) {
                    return false;
                }
            }
            return gatherPairs();
        }

        private boolean checkShapes() {
            for (int i = 0; i < data.spanCount; i++) {
                Fact fact = data.spans[i].fact;
                fact.visit = UNSEEN;
                boolean tooLong = fact.row != null && !fact.compatible && fact.row.length > 2;
                if (tooLong || fact.row != null && isSyllable(fact.first)) {
                    return false;
                }
            }
            return true;
        }

        /** Goes down the decompositions with a path of its own, as a chain may be too long for recursion. */
        private boolean expandFrom(Fact root) {
            depth = 0;
            enter(root);
            for (int step = 0; step < FAR_MORE_STEPS_THAN_NEEDED && depth > 0; step++) {
                Fact fact = path[depth - 1];
                int place = places[depth - 1];
                if (place == fact.row.length) {
                    if (!close(fact)) {
                        return false;
                    }
                    depth--;
                } else {
                    places[depth - 1]++;
                    if (!descend(fact.row[place])) {
                        return false;
                    }
                }
            }
            return depth == 0;
        }

        private boolean enter(Fact fact) {
            if (depth >= MOST_LINES) {
                return false;
            }
            fact.visit = OPEN;
            path[depth] = fact;
            places[depth] = 0;
            depth++;
            return true;
        }

        /** False if the POINT is on the path already: it would be in its own decomposition. */
        private boolean descend(int point) {
            Fact fact = data.spanOf(point).fact;
            if (isSyllable(point) || fact.row == null || fact.visit == CLOSED) {
                return true;
            }
            return fact.visit == UNSEEN && enter(fact);
        }

        private boolean close(Fact fact) {
            fact.compatibleAt = used;
            for (int k = 0; k < fact.row.length; k++) {
                if (!poolFull(fact.row[k], fact.compatibleAt, true)) {
                    return false;
                }
            }
            fact.compatibleLength = used - fact.compatibleAt;
            fact.canonicalAt = used;
            if (fact.compatible) {
                poolPoint(fact.first, fact.canonicalAt);
            } else {
                for (int k = 0; k < fact.row.length; k++) {
                    if (!poolFull(fact.row[k], fact.canonicalAt, false)) {
                        return false;
                    }
                }
            }
            fact.canonicalLength = used - fact.canonicalAt;
            fact.visit = CLOSED;
            return true;
        }

        private boolean poolFull(int point, int start, boolean compatible) {
            if (isSyllable(point)) {
                return poolSyllable(point, start);
            }
            Fact fact = data.spanOf(point).fact;
            if (fact.row == null) {
                return poolPoint(point, start);
            }
            int at = compatible ? fact.compatibleAt : fact.canonicalAt;
            int many = compatible ? fact.compatibleLength : fact.canonicalLength;
            for (int k = 0; k < many; k++) {
                if (!poolPoint(pool[at + k], start)) {
                    return false;
                }
            }
            return true;
        }

        private boolean poolSyllable(int point, int start) {
            for (int k = 0; k < syllableLength(point); k++) {
                if (!poolPoint(syllablePart(point, k), start)) {
                    return false;
                }
            }
            return true;
        }

        private boolean poolPoint(int point, int start) {
            if (used - start >= MOST_IN_FULL || used >= pool.length) {
                return false;
            }
            pool[used] = point;
            used++;
            return true;
        }

        int fullLength(int point, boolean compatible) {
            if (isSyllable(point)) {
                return syllableLength(point);
            }
            Fact fact = data.spanOf(point).fact;
            if (fact.row == null) {
                return 1;
            }
            return compatible ? fact.compatibleLength : fact.canonicalLength;
        }

        /** Puts the FULL DECOMPOSITION behind the text; false if it has no room. */
        boolean appendFull(int point, Text to, boolean compatible) {
            if (isSyllable(point)) {
                return appendSyllable(point, to);
            }
            Fact fact = data.spanOf(point).fact;
            if (fact.row == null) {
                return to.append(point);
            }
            int at = compatible ? fact.compatibleAt : fact.canonicalAt;
            return to.appendRow(pool, at, compatible ? fact.compatibleLength : fact.canonicalLength);
        }

        private static boolean appendSyllable(int point, Text to) {
            for (int k = 0; k < syllableLength(point); k++) {
                if (!to.append(syllablePart(point, k))) {
                    return false;
                }
            }
            return true;
        }

        private static boolean isSyllable(int point) {
            return point >= FIRST_SYLLABLE && point <= LAST_SYLLABLE;
        }

        private static int syllableLength(int point) {
            return (point - FIRST_SYLLABLE) % TAIL_BLOCK == 0 ? 2 : 3;
        }

        private static int syllablePart(int point, int k) {
            int s = point - FIRST_SYLLABLE;
            if (k == 0) {
                return 0x1100 + s / VOWEL_BLOCK;
            }
            return k == 1 ? 0x1161 + s % VOWEL_BLOCK / TAIL_BLOCK : 0x11A7 + s % TAIL_BLOCK;
        }

        private boolean gatherPairs() {
            for (int i = 0; i < data.spanCount; i++) {
                Fact fact = data.spans[i].fact;
                if (fact.row != null && !fact.compatible && fact.row.length == 2 && !isExcluded(fact.first)) {
                    if (!insertPair(fact.row[0], fact.row[1], fact.first)) {
                        return false;
                    }
                }
            }
            return true;
        }

        private boolean isExcluded(int point) {
            Span span = data.spanOf(point);
            if (span.hasTrait(COMPOSITION_EXCLUSION) || span.fact.combiningClass > 0) {
                return true;
            }
            int head = headOfTwo(point, span.fact);
            return head != NONE && data.classOf(head) > 0;
        }

        private static int headOfTwo(int point, Fact fact) {
            if (isSyllable(point)) {
                return syllableLength(point) == 2 ? syllablePart(point, 0) : NONE;
            }
            return fact.row != null && !fact.compatible && fact.row.length == 2 ? fact.row[0] : NONE;
        }

        private boolean insertPair(int head, int tail, int composite) {
            long pair = packPair(head, tail);
            int place = placeOf(pair, pairs, pairCount);
            boolean taken = place < pairCount && pairs[place] == pair;
            if (taken || syllableOf(head, tail) != NONE || pairCount >= MOST_LINES) {
                return false;
            }
            for (int i = pairCount; i > place; i--) {
                pairs[i] = pairs[i - 1];
                composites[i] = composites[i - 1];
            }
            pairs[place] = pair;
            composites[place] = composite;
            pairCount++;
            return true;
        }

        private static long packPair(int head, int tail) {
            return (long) head << POINT_BITS | tail;
        }

        private static int syllableOf(int head, int tail) {
            if (head >= 0x1100 && head <= 0x1112 && tail >= 0x1161 && tail <= 0x1175) {
                return FIRST_SYLLABLE + (head - 0x1100) * VOWEL_BLOCK + (tail - 0x1161) * TAIL_BLOCK;
            }
            int s = head - FIRST_SYLLABLE;
            boolean open = s >= 0 && head <= LAST_SYLLABLE && s % TAIL_BLOCK == 0;
            return open && tail >= 0x11A8 && tail <= 0x11C2 ? head + tail - 0x11A7 : NONE;
        }

        /** What the two become if they are a PAIR, else NONE. */
        int compositeOf(int head, int tail) {
            int syllable = syllableOf(head, tail);
            if (syllable != NONE) {
                return syllable;
            }
            long pair = packPair(head, tail);
            int place = placeOf(pair, pairs, pairCount);
            return place < pairCount && pairs[place] == pair ? composites[place] : NONE;
        }

        int pairRole(int point) {
            int role = isExcluded(point) ? 1 : 0;
            for (int i = 0; i < pairCount; i++) {
                if ((pairs[i] & POINT_MASK) == point) {
                    return role + 2;
                }
            }
            return role;
        }
    }

    /** The FORMS. */
    private static final class Forms {
        private final Data data;
        private final Decompositions decompositions;
        private final int[] classes = new int[MOST_POINTS];
        private final int[] heldPoints = new int[MOST_POINTS];
        private final int[] heldClasses = new int[MOST_POINTS];

        Forms(Data data, Decompositions decompositions) {
            this.data = data;
            this.decompositions = decompositions;
        }

        /** Makes to, another text than from; false if it has no room for what comes on the way. */
        boolean convert(Text from, Text to, int form) {
            to.length = 0;
            return expand(from, to, form) && finish(to, form);
        }

        boolean convertTwo(Text from, Text behind, Text to, int form) {
            to.length = 0;
            return expand(from, to, form) && expand(behind, to, form) && finish(to, form);
        }

        private boolean expand(Text from, Text to, int form) {
            boolean compatible = form == NFKD || form == NFKC;
            for (int i = 0; i < from.length; i++) {
                if (!decompositions.appendFull(from.points[i], to, compatible)) {
                    return false;
                }
            }
            return true;
        }

        /** Always true, so that it can end the chain of what may have no room. */
        private boolean finish(Text text, int form) {
            for (int i = 0; i < text.length; i++) {
                classes[i] = data.classOf(text.points[i]);
            }
            putInOrder(text);
            if (form == NFC || form == NFKC) {
                compose(text);
            }
            return true;
        }

        private void putInOrder(Text text) {
            int start = 0;
            for (int i = 0; i <= text.length; i++) {
                if (i == text.length || classes[i] == 0) {
                    sortRun(text.points, start, i);
                    start = i + 1;
                }
            }
        }

        /** By merging, so that long runs of marks stay cheap; equal ones keep their order. */
        private void sortRun(int[] points, int from, int to) {
            for (int width = 1; width < to - from; width *= 2) {
                for (int low = from; low + width < to; low += 2 * width) {
                    mergeRuns(points, low, low + width, Math.min(low + 2 * width, to));
                }
            }
        }

        private void mergeRuns(int[] points, int low, int middle, int high) {
            if (classes[middle - 1] <= classes[middle]) {
                return;
            }
            System.arraycopy(points, low, heldPoints, low, high - low);
            System.arraycopy(classes, low, heldClasses, low, high - low);
            int a = low;
            int b = middle;
            for (int i = low; i < high; i++) {
                boolean takeFirst = b >= high || a < middle && heldClasses[a] <= heldClasses[b];
                int taken = takeFirst ? a : b;
                points[i] = heldPoints[taken];
                classes[i] = heldClasses[taken];
                if (takeFirst) {
                    a++;
                } else {
                    b++;
                }
            }
        }

        private void compose(Text text) {
            int[] points = text.points;
            int kept = 0;
            int starter = NONE;
            int highest = NONE;
            for (int i = 0; i < text.length; i++) {
                boolean open = starter != NONE && highest < classes[i];
                int composite = open ? decompositions.compositeOf(points[starter], points[i]) : NONE;
                if (composite != NONE) {
                    points[starter] = composite;
                    classes[starter] = data.classOf(composite);
                    if (classes[starter] != 0) {
                        // A syllable that was told a class above 0 is no starter any more.
                        starter = lastStarter(kept);
                        highest = highestClass(starter + 1, kept);
                    }
                    continue;
                }
                points[kept] = points[i];
                classes[kept] = classes[i];
                if (classes[kept] == 0) {
                    starter = kept;
                    highest = NONE;
                } else {
                    highest = Math.max(highest, classes[kept]);
                }
                kept++;
            }
            text.length = kept;
        }

        private int lastStarter(int kept) {
            int i = kept - 1;
            while (i >= 0 && classes[i] != 0) {
                i--;
            }
            return i;
        }

        private int highestClass(int from, int to) {
            int highest = NONE;
            for (int i = from; i < to; i++) {
                highest = Math.max(highest, classes[i]);
            }
            return highest;
        }
    }

    /** Case and folding. */
    private static final class Casing {
        private static final int KEEP = 4;
        private static final int CONDITION_COUNT = 9;
        private static final int DOT_ABOVE = 0x0307;
        private static final int CAPITAL_I = 0x0049;
        private static final int ABOVE = 230;
        private static final int LU = 'L' * 256 + 'u';
        private static final int LL = 'L' * 256 + 'l';
        private static final int LT = 'L' * 256 + 't';

        private final Data data;
        private final Breaks breaks;
        private final int[] places = new int[MOST_POINTS];
        private final int[] classes = new int[MOST_POINTS];
        private final int[] traits = new int[MOST_POINTS];
        private final boolean[] cased = new boolean[MOST_POINTS];
        private int[] points = new int[0];
        private int length;
        private int locale;
        private boolean titled;

        Casing(Data data, Breaks breaks) {
            this.data = data;
            this.breaks = breaks;
        }

        /** Makes to, another text than from; false if it has no room. */
        boolean fold(Text from, Text to, int locale) {
            boolean turkic = locale == 1 || locale == 2;
            boolean fits = true;
            to.length = 0;
            for (int i = 0; i < from.length && fits; i++) {
                int[] row = foldRow(data.spanOf(from.points[i]), turkic);
                fits = row != null ? to.appendRow(row, 0, row.length) : to.append(from.points[i]);
            }
            return fits;
        }

        private static int[] foldRow(Span span, boolean turkic) {
            if (turkic && span.foldTurkic != null) {
                return span.foldTurkic;
            }
            return span.foldFull != null ? span.foldFull : span.foldCommon;
        }

        /** By lower, upper or title; makes to, another text than from; false if it has no room. */
        boolean convert(Text from, Text to, int kind, int locale) {
            load(from, locale);
            if (kind == TITLE) {
                breaks.load(from, WORDS);
            }
            boolean fits = true;
            to.length = 0;
            for (int i = 0; i < length && fits; i++) {
                int step = kind == TITLE ? titleStep(i) : kind;
                fits = step == KEEP ? to.append(points[i]) : appendMapped(to, i, step);
            }
            return fits;
        }

        /** What title does to POINT i, when it was asked of all before it. */
        private int titleStep(int i) {
            titled = titled && !breaks.isBoundary(i);
            if (titled) {
                return LOWER;
            }
            titled = cased[i];
            return titled ? TITLE : KEEP;
        }

        private void load(Text from, int locale) {
            points = from.points;
            length = from.length;
            this.locale = locale;
            titled = false;
            for (int i = 0; i < length; i++) {
                places[i] = data.spanIndex(points[i]);
                Span span = data.spans[places[i]];
                int category = span.fact.category;
                classes[i] = span.fact.combiningClass;
                traits[i] = span.traits;
                cased[i] = span.hasTrait(CASED) || category == LU || category == LL || category == LT;
            }
        }

        private boolean appendMapped(Text to, int i, int kind) {
            int[] row = specialRow(i, kind);
            if (row != null) {
                return to.appendRow(row, 0, row.length);
            }
            return to.append(ownCase(i, kind));
        }

        private int[] specialRow(int i, int kind) {
            int[] plain = null;
            for (Special special = data.spans[places[i]].special; special != null; special = special.later) {
                if (special.conditions == 0) {
                    plain = special.rowFor(kind);
                } else if (allHold(special.conditions, i)) {
                    return special.rowFor(kind);
                }
            }
            return plain;
        }

        private int ownCase(int i, int kind) {
            Fact fact = data.spans[places[i]].fact;
            int mapped = kind == LOWER ? fact.lower : fact.upper;
            if (kind == TITLE && fact.title != NONE) {
                mapped = fact.title;
            }
            return mapped != NONE ? mapped : points[i];
        }

        private boolean allHold(int conditions, int i) {
            for (int condition = 0; condition < CONDITION_COUNT; condition++) {
                if ((conditions >> condition & 1) != 0 && !holds(condition, i)) {
                    return false;
                }
            }
            return true;
        }

        /** The conditions are numbered in the order in which the document names them. */
        private boolean holds(int condition, int i) {
            switch (condition) {
                case 0: return locale == 1;
                case 1: return locale == 2;
                case 2: return locale == 3;
                case 3: return casedBefore(i) && !casedBehind(i);
                case 4: return softDottedBefore(i);
                case 5: return aboveBehind(i);
                case 6: return dotBehind(i);
                case 7: return !dotBehind(i);
                default: return capitalIBefore(i);
            }
        }

        private boolean casedBefore(int i) {
            int k = i - 1;
            while (k >= 0 && (traits[k] & CASE_IGNORABLE) != 0) {
                k--;
            }
            return k >= 0 && cased[k];
        }

        private boolean casedBehind(int i) {
            int k = i + 1;
            while (k < length && (traits[k] & CASE_IGNORABLE) != 0) {
                k++;
            }
            return k < length && cased[k];
        }

        private boolean softDottedBefore(int i) {
            int k = i - 1;
            while (k >= 0 && (traits[k] & SOFT_DOTTED) == 0 && classes[k] != 0 && classes[k] != ABOVE) {
                k--;
            }
            return k >= 0 && (traits[k] & SOFT_DOTTED) != 0;
        }

        private boolean aboveBehind(int i) {
            int k = i + 1;
            while (k < length && classes[k] != 0 && classes[k] != ABOVE) {
                k++;
            }
            return k < length && classes[k] == ABOVE;
        }

        private boolean dotBehind(int i) {
            int k = i + 1;
            while (k < length && points[k] != DOT_ABOVE && classes[k] != 0 && classes[k] != ABOVE) {
                k++;
            }
            return k < length && points[k] == DOT_ABOVE;
        }

        private boolean capitalIBefore(int i) {
            int k = i - 1;
            while (k >= 0 && points[k] != CAPITAL_I && classes[k] != 0 && classes[k] != ABOVE) {
                k--;
            }
            return k >= 0 && points[k] == CAPITAL_I;
        }
    }

    /** Boundaries of GRAPHEMES and WORDS. */
    private static final class Breaks {
        // The first three and Regional_Indicator are numbered alike for graphemes and words.
        private static final int CR = 1;
        private static final int LF = 2;
        private static final int EXTEND = 4;
        private static final int ZWJ = 5;
        private static final int REGIONAL = 6;

        private static final int CONTROL = 3;
        private static final int PREPEND = 7;
        private static final int SPACING_MARK = 8;
        private static final int HANGUL_L = 9;
        private static final int HANGUL_V = 10;
        private static final int HANGUL_T = 11;
        private static final int HANGUL_LV = 12;
        private static final int HANGUL_LVT = 13;

        private static final int NEWLINE = 3;
        private static final int FORMAT = 7;
        private static final int KATAKANA = 8;
        private static final int HEBREW_LETTER = 9;
        private static final int A_LETTER = 10;
        private static final int MID_LETTER = 11;
        private static final int MID_NUM = 12;
        private static final int MID_NUM_LET = 13;
        private static final int SINGLE_QUOTE = 14;
        private static final int DOUBLE_QUOTE = 15;
        private static final int NUMERIC = 16;
        private static final int EXTEND_NUM_LET = 17;
        private static final int SPACE = 18;

        private final Data data;
        private final int[] values = new int[MOST_POINTS];
        private final boolean[] pictographic = new boolean[MOST_POINTS];
        private final int[] bases = new int[MOST_POINTS];
        private final boolean[] oddRegional = new boolean[MOST_POINTS];
        private int length;
        private boolean words;

        Breaks(Data data) {
            this.data = data;
        }

        void load(Text text, int kind) {
            length = text.length;
            words = kind == WORDS;
            for (int i = 0; i < length; i++) {
                Span span = data.spanOf(text.points[i]);
                values[i] = words ? span.wordBreak : span.graphemeBreak;
                pictographic[i] = span.hasTrait(EXTENDED_PICTOGRAPHIC);
                bases[i] = isAttached(i) ? bases[i - 1] : i;
                oddRegional[i] = values[i] == REGIONAL && !(i > 0 && oddRegional[bases[i - 1]]);
            }
        }

        /** Whether POINT i counts as not there, as WORDS have it; its base is what it stands behind. */
        private boolean isAttached(int i) {
            return words && i > 0 && isIgnored(values[i]) && !isLineEnd(values[i - 1]);
        }

        boolean isBoundary(int i) {
            if (length == 0) {
                return false;
            }
            if (i <= 0 || i >= length) {
                return true;
            }
            return words ? isWordBoundary(i) : isGraphemeBoundary(i);
        }

        int firstBehind(int i) {
            for (int k = i + 1; k <= length; k++) {
                if (isBoundary(k)) {
                    return k;
                }
            }
            return NONE;
        }

        int lastBefore(int i) {
            for (int k = i - 1; k >= 0; k--) {
                if (isBoundary(k)) {
                    return k;
                }
            }
            return NONE;
        }

        private boolean isGraphemeBoundary(int i) {
            int a = values[i - 1];
            int b = values[i];
            if (a == CR && b == LF) {
                return false;
            }
            if (isControl(a) || isControl(b)) {
                return true;
            }
            if (isInSyllable(a, b) || b == EXTEND || b == ZWJ || b == SPACING_MARK || a == PREPEND) {
                return false;
            }
            if (a == ZWJ && pictographic[i] && isPictureBefore(i - 1)) {
                return false;
            }
            return !(b == REGIONAL && oddRegional[i - 1]);
        }

        private static boolean isControl(int value) {
            return value == CR || value == LF || value == CONTROL;
        }

        private static boolean isInSyllable(int a, int b) {
            switch (a) {
                case HANGUL_L: return b == HANGUL_L || b == HANGUL_V || b == HANGUL_LV || b == HANGUL_LVT;
                case HANGUL_LV:
                case HANGUL_V: return b == HANGUL_V || b == HANGUL_T;
                case HANGUL_LVT:
                case HANGUL_T: return b == HANGUL_T;
                default: return false;
            }
        }

        private boolean isPictureBefore(int joiner) {
            for (int k = joiner - 1; k >= 0; k--) {
                if (pictographic[k]) {
                    return true;
                }
                if (values[k] != EXTEND) {
                    return false;
                }
            }
            return false;
        }

        private boolean isWordBoundary(int i) {
            int a = values[i - 1];
            int b = values[i];
            if (a == CR && b == LF) {
                return false;
            }
            if (isLineEnd(a) || isLineEnd(b)) {
                return true;
            }
            if (a == ZWJ && pictographic[i] || a == SPACE && b == SPACE || isIgnored(b)) {
                return false;
            }
            int base = bases[i - 1];
            int before = base > 0 ? values[bases[base - 1]] : NONE;
            a = values[base];
            if (isInWord(a, b) || isAroundMiddle(before, a, b) || isAroundMiddle(valueBehind(i), b, a)) {
                return false;
            }
            if (a == HEBREW_LETTER && b == SINGLE_QUOTE) {
                return false;
            }
            return !(b == REGIONAL && oddRegional[base]);
        }

        private static boolean isLineEnd(int value) {
            return value == CR || value == LF || value == NEWLINE;
        }

        private static boolean isIgnored(int value) {
            return value == EXTEND || value == FORMAT || value == ZWJ;
        }

        private static boolean isLetter(int value) {
            return value == A_LETTER || value == HEBREW_LETTER;
        }

        private static boolean isQuote(int value) {
            return value == MID_NUM_LET || value == SINGLE_QUOTE;
        }

        private int valueBehind(int i) {
            int k = i + 1;
            while (k < length && isIgnored(values[k])) {
                k++;
            }
            return k < length ? values[k] : NONE;
        }

        /** The rules that need no more than the two neighbours. */
        private static boolean isInWord(int a, int b) {
            boolean lettersOrDigits = (isLetter(a) || a == NUMERIC) && (isLetter(b) || b == NUMERIC);
            if (lettersOrDigits || a == KATAKANA && b == KATAKANA) {
                return true;
            }
            boolean joinsBehind = isLetter(a) || a == NUMERIC || a == KATAKANA || a == EXTEND_NUM_LET;
            boolean joinsBefore = isLetter(b) || b == NUMERIC || b == KATAKANA;
            return joinsBehind && b == EXTEND_NUM_LET || a == EXTEND_NUM_LET && joinsBefore;
        }

        /** Whether the middle one holds the outer two together; these rules read alike from both sides. */
        private static boolean isAroundMiddle(int outer, int middle, int inner) {
            if (isLetter(outer) && isLetter(inner) && (middle == MID_LETTER || isQuote(middle))) {
                return true;
            }
            if (outer == HEBREW_LETTER && inner == HEBREW_LETTER && middle == DOUBLE_QUOTE) {
                return true;
            }
            return outer == NUMERIC && inner == NUMERIC && (middle == MID_NUM || isQuote(middle));
        }
    }

    /** The ELEMENTS of one text, as COLLATION has them, and the KEY that they make. */
    private static final class Collation {
        private static final int IDEOGRAPH_BASE = 0xFB40;
        private static final int OTHER_BASE = 0xFBC0;
        private static final long WEIGHT_MASK = 0xFFFFL;

        private final Data data;
        private final Forms forms;
        private final Text rest = new Text();
        private final int[] classes = new int[MOST_POINTS];
        // Four weights of 16 bits each, the first one highest.
        private final long[] items = new long[MOST_POINTS * MOST_IN_ROW];
        private int itemCount;
        private boolean shifted;
        private boolean behindVariable;

        Collation(Data data, Forms forms) {
            this.data = data;
            this.forms = forms;
        }

        /** False if the text has no room for its NFD. */
        boolean build(Text text, boolean shifted) {
            this.shifted = shifted;
            behindVariable = false;
            itemCount = 0;
            if (!forms.convert(text, rest, NFD)) {
                return false;
            }
            for (int i = 0; i < rest.length; i++) {
                classes[i] = data.classOf(rest.points[i]);
            }
            int at = 0;
            for (int turn = 0; turn < MOST_POINTS && at < rest.length; turn++) {
                at = takeElements(at);
            }
            return true;
        }

        /** Puts down the elements of what begins there, and answers where the rest begins. */
        private int takeElements(int at) {
            int index = longestEntry(at);
            if (index == NONE) {
                putImplicit(rest.points[at]);
                return at + 1;
            }
            int begin = at + data.entries[index].length;
            int passed = 0;
            for (int k = begin; k < rest.length && classes[k] > 0 && data.hasLonger(index); k++) {
                int longer = classes[k] > passed ? longerEntry(index, rest.points[k]) : NONE;
                if (longer == NONE) {
                    passed = Math.max(passed, classes[k]);
                } else {
                    closeGap(begin, k);
                    begin++;
                    index = longer;
                }
            }
            long[] elements = data.entries[index].elements;
            for (int k = 0; k < elements.length; k++) {
                put(elements[k]);
            }
            return begin;
        }

        private int longestEntry(int at) {
            long row = 0;
            int longest = NONE;
            for (int k = 0; k < 3 && at + k < rest.length; k++) {
                row = Data.packAt(row, k, rest.points[at + k]);
                int index = data.entryIndex(row);
                longest = index != NONE ? index : longest;
            }
            return longest;
        }

        private int longerEntry(int index, int point) {
            int length = data.entries[index].length;
            return length < 3 ? data.entryIndex(Data.packAt(data.rows[index], length, point)) : NONE;
        }

        /** What was passed over moves up to where the taken one stood. */
        private void closeGap(int begin, int taken) {
            for (int k = taken; k > begin; k--) {
                rest.points[k] = rest.points[k - 1];
                classes[k] = classes[k - 1];
            }
        }

        private void putImplicit(int point) {
            int base = data.spanOf(point).hasTrait(UNIFIED_IDEOGRAPH) ? IDEOGRAPH_BASE : OTHER_BASE;
            put((long) (base + (point >>> 15)) << 48 | 0x0020L << 32 | 0x0002L << 16);
            put((long) (point & 0x7FFF | 0x8000) << 48);
        }

        private void put(long element) {
            if (itemCount < items.length) {
                items[itemCount] = shifted ? shift(element) : element & ~WEIGHT_MASK;
                itemCount++;
            }
        }

        private long shift(long element) {
            long primary = element >>> 48;
            long weights = element & ~WEIGHT_MASK;
            if (primary != 0) {
                behindVariable = (element & 1) != 0;
                return behindVariable ? primary : weights | WEIGHT_MASK;
            }
            return behindVariable || weights == 0 ? 0 : weights | WEIGHT_MASK;
        }

        private long weight(int i, int level) {
            return items[i] >>> 16 * (3 - level) & WEIGHT_MASK;
        }

        int keyLength(int levels) {
            int weights = levels - 1;
            for (int level = 0; level < levels; level++) {
                for (int i = 0; i < itemCount; i++) {
                    weights += weight(i, level) != 0 ? 1 : 0;
                }
            }
            return 2 * weights;
        }

        /** The result has room: keyLength was asked before. */
        void writeKey(byte[] result, int levels) {
            int at = 0;
            for (int level = 0; level < levels; level++) {
                if (level > 0) {
                    at = writeWeight(result, at, 0);
                }
                for (int i = 0; i < itemCount; i++) {
                    long weight = weight(i, level);
                    if (weight != 0) {
                        at = writeWeight(result, at, weight);
                    }
                }
            }
        }

        private static int writeWeight(byte[] result, int at, long weight) {
            if (at + 1 < result.length) {
                result[at] = (byte) (weight >>> 8);
                result[at + 1] = (byte) weight;
            }
            return at + 2;
        }

        /** As the KEYS compare: level by level is the same, since the 0000 between is below all weights. */
        int orderAgainst(Collation that, int levels) {
            for (int level = 0; level < levels; level++) {
                int order = levelOrder(that, level);
                if (order != 0) {
                    return order;
                }
            }
            return 0;
        }

        private int levelOrder(Collation that, int level) {
            int i = 0;
            int j = 0;
            while (i < itemCount || j < that.itemCount) {
                i = skipZeros(i, level);
                j = that.skipZeros(j, level);
                long mine = i < itemCount ? weight(i, level) : 0;
                long theirs = j < that.itemCount ? that.weight(j, level) : 0;
                if (mine != theirs) {
                    return mine < theirs ? -1 : 1;
                }
                i++;
                j++;
            }
            return 0;
        }

        private int skipZeros(int from, int level) {
            int i = from;
            while (i < itemCount && weight(i, level) == 0) {
                i++;
            }
            return i;
        }
    }
}
