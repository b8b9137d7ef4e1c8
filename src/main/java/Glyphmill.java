import java.util.Arrays;
import java.util.NoSuchElementException;

/** A text shaper and paragraph builder. */
public final class Glyphmill {
    private static final int MOST_CHARACTERS = 50;
    private static final int MOST_OPEN = 5;
    private static final int MOST_LIGATURES = 20;
    private static final int FIRST_LIGATURE = 200;
    private static final int MOST_TRIED_BREAKS = 9;
    private static final int WORST_BADNESS = 10000;
    private static final int CODES = 128;
    private static final int NONE = -1;

    private final Text text = new Text();
    private final Font font = new Font();
    private final Sequence sequence = new Sequence();
    private final Levels levels = new Levels(sequence);
    private final Runs runTable = new Runs(sequence, levels);
    private final Glyphs glyphTable = new Glyphs(sequence, levels, runTable);
    private final Parts parts = new Parts(glyphTable);
    private final Lines lineTable = new Lines(parts);
    private final Rows rows = new Rows(glyphTable, parts, lineTable);
    private int lineWidth = 60;
    private int base = 0;
    private boolean isStale = true;

    public Glyphmill() {
    }

    public int add(char character) throws IllegalArgumentException, IllegalStateException {
        if (!isShown(character) && !isMark(character)) {
            throw new IllegalArgumentException("not a letter, a digit, neutral or a mark");
        }
        if (!text.takes(character)) {
            throw new IllegalStateException("the text has no room for this character, or no embedding that fits");
        }
        text.append(character);
        isStale = true;
        return text.size;
    }

    public char removeLast() throws NoSuchElementException {
        if (text.size == 0) {
            throw new NoSuchElementException("the text is empty");
        }
        isStale = true;
        return text.cutLast();
    }

    public int setWidth(char character, int width) throws IllegalArgumentException {
        if (!isShown(character) || width < 1 || width > 20) {
            throw new IllegalArgumentException("no such character, or the width is not 1 to 20");
        }
        isStale = true;
        return font.changeWidth(character, width);
    }

    public int setLine(int width) throws IllegalArgumentException {
        if (width < 10 || width > 200) {
            throw new IllegalArgumentException("the line width is not 10 to 200");
        }
        int before = lineWidth;
        lineWidth = width;
        isStale = true;
        return before;
    }

    public boolean setBase(boolean isRight) {
        boolean before = base == 1;
        base = isRight ? 1 : 0;
        isStale = true;
        return before;
    }

    public int addLigature(int first, char second, int width)
            throws IllegalArgumentException, IllegalStateException {
        if (!font.canBegin(first) || !isLetter(second) || width < 1 || width > 40) {
            throw new IllegalArgumentException("no such beginning, no such letter, or the width is not 1 to 40");
        }
        if (font.size >= MOST_LIGATURES || font.ligature(first, second) != NONE) {
            throw new IllegalStateException("there is such a rule, or there are 20 ligatures");
        }
        isStale = true;
        return font.addRule(first, second, width);
    }

    public int length() {
        return text.size;
    }

    public char charAt(int index) throws IndexOutOfBoundsException {
        needIndex(index);
        return text.signs[index];
    }

    public int open() {
        return text.countOpen();
    }

    public int embeddingOf(int index) throws IndexOutOfBoundsException, UnsupportedOperationException {
        refresh();
        return sequence.embeddings[slotOf(index)];
    }

    public int levelOf(int index) throws IndexOutOfBoundsException, UnsupportedOperationException {
        refresh();
        return levels.values[slotOf(index)];
    }

    public int scriptOf(int index) throws IndexOutOfBoundsException, UnsupportedOperationException {
        refresh();
        return runTable.scripts[slotOf(index)];
    }

    public int runOf(int index) throws IndexOutOfBoundsException, UnsupportedOperationException {
        refresh();
        return runTable.numbers[slotOf(index)];
    }

    public int runs() {
        refresh();
        return runTable.size;
    }

    public int glyphOf(int index) throws IndexOutOfBoundsException, UnsupportedOperationException {
        refresh();
        return glyphTable.numbers[glyphAround(index)];
    }

    public int glyphStart(int index) throws IndexOutOfBoundsException, UnsupportedOperationException {
        refresh();
        return indexOfGlyph(glyphAround(index));
    }

    public int glyphs() {
        refresh();
        return glyphTable.size;
    }

    public int breaks() {
        refresh();
        return parts.countBreaks();
    }

    public int breakAt(int rank) throws IndexOutOfBoundsException {
        refresh();
        if (rank < 0 || rank >= parts.countBreaks()) {
            throw new IndexOutOfBoundsException("there is no such break place");
        }
        return indexOfGlyph(parts.starts[rank + 1]);
    }

    public int tooWide() {
        refresh();
        return lineTable.arePossible() ? NONE : indexOfGlyph(parts.starts[lineTable.tooWide]);
    }

    public int excess() {
        refresh();
        return lineTable.arePossible() ? 0 : -lineTable.difference(lineTable.tooWide, lineTable.tooWide + 1);
    }

    public int lines() throws IllegalStateException {
        refresh();
        needLines();
        return lineTable.size;
    }

    public int linesByFirstFit() throws IllegalStateException {
        refresh();
        needLines();
        return lineTable.countFirstFit();
    }

    public int firstOf(int line) throws IllegalStateException, IndexOutOfBoundsException {
        refresh();
        needLine(line);
        return indexOfGlyph(rows.startOf(line));
    }

    public int lineOf(int index) throws IndexOutOfBoundsException, UnsupportedOperationException,
            IllegalStateException, NoSuchElementException {
        refresh();
        return rows.lines[glyphInLines(index)];
    }

    public int widthOf(int line) throws IllegalStateException, IndexOutOfBoundsException {
        refresh();
        needLine(line);
        return parts.naturalWidth(lineTable.starts[line], lineTable.starts[line + 1]);
    }

    public int badnessOf(int line) throws IllegalStateException, IndexOutOfBoundsException {
        refresh();
        needLine(line);
        return lineTable.badness(lineTable.starts[line], lineTable.starts[line + 1]);
    }

    public long demerits() throws IllegalStateException {
        refresh();
        needLines();
        return lineTable.total;
    }

    public long demeritsByTrying() throws IllegalStateException, UnsupportedOperationException {
        refresh();
        needLines();
        needFewBreaks();
        lineTable.tryAll();
        return lineTable.triedTotal;
    }

    public int linesByTrying() throws IllegalStateException, UnsupportedOperationException {
        refresh();
        needLines();
        needFewBreaks();
        lineTable.tryAll();
        return lineTable.triedSize;
    }

    public int glyphsOf(int line) throws IllegalStateException, IndexOutOfBoundsException {
        refresh();
        needLine(line);
        return rows.endOf(line) - rows.startOf(line);
    }

    public int glyphAt(int line, int rank) throws IllegalStateException, IndexOutOfBoundsException {
        refresh();
        needLine(line);
        int start = rows.startOf(line);
        if (rank < 0 || rank >= rows.endOf(line) - start) {
            throw new IndexOutOfBoundsException("the line has no such rank");
        }
        return indexOfGlyph(rows.order[start + rank]);
    }

    public int rankOf(int index) throws IndexOutOfBoundsException, UnsupportedOperationException,
            IllegalStateException, NoSuchElementException {
        refresh();
        return rows.ranks[placedGlyph(index)];
    }

    public int rankByCounting(int index) throws IndexOutOfBoundsException, UnsupportedOperationException,
            IllegalStateException, NoSuchElementException {
        refresh();
        return rows.countRank(placedGlyph(index));
    }

    public int placeOf(int index) throws IndexOutOfBoundsException, UnsupportedOperationException,
            IllegalStateException, NoSuchElementException {
        refresh();
        return rows.places[placedGlyph(index)];
    }

    public int justifiedWidth(int index) throws IndexOutOfBoundsException, UnsupportedOperationException,
            IllegalStateException, NoSuchElementException {
        refresh();
        return rows.widths[placedGlyph(index)];
    }

    public float hyphenShare() throws IllegalStateException, ArithmeticException {
        refresh();
        int all = someLines();
        int hyphened = 0;
        for (int line = 0; line < all; line++) {
            if (parts.isHyphenAhead(lineTable.starts[line + 1])) {
                hyphened++;
            }
        }
        return (float) hyphened / (float) all;
    }

    public double meanBadness() throws IllegalStateException, ArithmeticException {
        refresh();
        int all = someLines();
        int sum = 0;
        for (int line = 0; line < all; line++) {
            sum += lineTable.badness(lineTable.starts[line], lineTable.starts[line + 1]);
        }
        return (double) sum / (double) all;
    }

    /** Every question works on the same tables: they are filled anew only after a change. */
    private void refresh() {
        if (!isStale) {
            return;
        }
        sequence.read(text, base);
        levels.resolve(base);
        runTable.divide();
        glyphTable.form(font);
        parts.cut();
        lineTable.fit(lineWidth);
        lineTable.find();
        rows.arrange(base);
        isStale = false;
    }

    private void needIndex(int index) {
        if (index < 0 || index >= text.size) {
            throw new IndexOutOfBoundsException("there is no such index");
        }
    }

    private int slotOf(int index) {
        needIndex(index);
        int slot = sequence.slots[index];
        if (slot == NONE) {
            throw new UnsupportedOperationException("it is a mark");
        }
        return slot;
    }

    private int glyphAround(int index) {
        return glyphTable.owners[slotOf(index)];
    }

    private int indexOfGlyph(int glyph) {
        return sequence.indices[glyphTable.starts[glyph]];
    }

    private void needLines() {
        if (!lineTable.arePossible()) {
            throw new IllegalStateException("lines are not possible");
        }
    }

    private void needLine(int line) {
        needLines();
        if (line < 0 || line >= lineTable.size) {
            throw new IndexOutOfBoundsException("there is no such line");
        }
    }

    private int someLines() {
        needLines();
        if (lineTable.size == 0) {
            throw new ArithmeticException("there are no lines");
        }
        return lineTable.size;
    }

    private void needFewBreaks() {
        if (parts.countBreaks() > MOST_TRIED_BREAKS) {
            throw new UnsupportedOperationException("there are more than 9 break places");
        }
    }

    private int glyphInLines(int index) {
        int glyph = glyphAround(index);
        needLines();
        if (lineTable.size == 0) {
            throw new NoSuchElementException("there are no lines");
        }
        return glyph;
    }

    private int placedGlyph(int index) {
        int glyph = glyphInLines(index);
        if (rows.ranks[glyph] == NONE) {
            throw new NoSuchElementException("it is a dropped space");
        }
        return glyph;
    }

    private static boolean isLeftLetter(int code) {
        return code >= 'a' && code <= 'z';
    }

    private static boolean isRightLetter(int code) {
        return code >= 'A' && code <= 'Z';
    }

    private static boolean isLetter(int code) {
        return isLeftLetter(code) || isRightLetter(code);
    }

    private static boolean isDigit(int code) {
        return code >= '0' && code <= '9';
    }

    private static boolean isNeutral(int code) {
        return code == ' ' || code == '-' || code == ',' || code == '.';
    }

    private static boolean isMark(int code) {
        return code == '[' || code == '{' || code == '}';
    }

    /** A character that is no mark, and so has a width and stands in a glyph. */
    private static boolean isShown(int code) {
        return isLetter(code) || isDigit(code) || isNeutral(code);
    }

    private static boolean isOdd(int level) {
        return (level & 1) == 1;
    }

    /** The characters as they were added, marks included. */
    private static final class Text {
        final char[] signs = new char[MOST_CHARACTERS];
        int size = 0;

        int countOpen() {
            int count = 0;
            for (int i = 0; i < size; i++) {
                if (isMark(signs[i])) {
                    count += signs[i] == '}' ? -1 : 1;
                }
            }
            return count;
        }

        boolean takes(char sign) {
            if (size >= MOST_CHARACTERS) {
                return false;
            }
            if (!isMark(sign)) {
                return true;
            }
            return sign == '}' ? countOpen() > 0 : countOpen() < MOST_OPEN;
        }

        void append(char sign) {
            if (size < MOST_CHARACTERS) {
                signs[size] = sign;
                size++;
            }
        }

        char cutLast() {
            if (size > 0) {
                size--;
            }
            return signs[size];
        }
    }

    /** The widths of the characters, and the rules of the ligatures with theirs. */
    private static final class Font {
        private final int[] widths = new int[CODES];
        private final int[] firsts = new int[MOST_LIGATURES];
        private final char[] seconds = new char[MOST_LIGATURES];
        private final int[] ligatureWidths = new int[MOST_LIGATURES];
        int size = 0;

        Font() {
            Arrays.fill(widths, 4);
        }

        int changeWidth(char sign, int width) {
            if (sign >= CODES) {
                return 0;
            }
            int before = widths[sign];
            widths[sign] = width;
            return before;
        }

        boolean canBegin(int number) {
            return isLetter(number) || isLigature(number);
        }

        private boolean isLigature(int number) {
            return number >= FIRST_LIGATURE && number < FIRST_LIGATURE + size;
        }

        int ligature(int first, char second) {
            for (int i = 0; i < size; i++) {
                if (firsts[i] == first && seconds[i] == second) {
                    return FIRST_LIGATURE + i;
                }
            }
            return NONE;
        }

        int addRule(int first, char second, int width) {
            if (size >= MOST_LIGATURES) {
                return NONE;
            }
            firsts[size] = first;
            seconds[size] = second;
            ligatureWidths[size] = width;
            size++;
            return FIRST_LIGATURE + size - 1;
        }

        int glyphWidth(int number) {
            if (isLigature(number)) {
                return ligatureWidths[number - FIRST_LIGATURE];
            }
            return number >= 0 && number < CODES ? widths[number] : 0;
        }
    }

    /** The characters that are no marks, each in a slot: neighbours have slots side by side. */
    private static final class Sequence {
        final int[] slots = new int[MOST_CHARACTERS];
        final int[] indices = new int[MOST_CHARACTERS];
        final char[] signs = new char[MOST_CHARACTERS];
        final int[] embeddings = new int[MOST_CHARACTERS];
        private final int[] openLevels = new int[MOST_OPEN + 1];
        int size = 0;

        void read(Text text, int base) {
            int depth = 0;
            openLevels[0] = base;
            size = 0;
            for (int i = 0; i < text.size; i++) {
                char sign = text.signs[i];
                slots[i] = NONE;
                if (!isMark(sign)) {
                    take(i, sign, openLevels[depth]);
                } else if (sign == '}') {
                    depth = depth > 0 ? depth - 1 : 0;
                } else if (depth < MOST_OPEN) {
                    openLevels[depth + 1] = levelInside(openLevels[depth], sign == '{');
                    depth++;
                }
            }
        }

        private void take(int index, char sign, int embedding) {
            slots[index] = size;
            indices[size] = index;
            signs[size] = sign;
            embeddings[size] = embedding;
            size++;
        }

        private static int levelInside(int outer, boolean isRight) {
            return isOdd(outer + 1) == isRight ? outer + 1 : outer + 2;
        }
    }

    /** The level of each slot, found stretch by stretch. */
    private static final class Levels {
        private static final int LEFT = 0;
        private static final int RIGHT = 1;
        private static final int NUMBER = 2;
        private static final int NEUTRAL = 3;

        private final Sequence sequence;
        private final int[] kinds = new int[MOST_CHARACTERS];
        final int[] values = new int[MOST_CHARACTERS];

        Levels(Sequence sequence) {
            this.sequence = sequence;
        }

        void resolve(int base) {
            int[] embeddings = sequence.embeddings;
            for (int i = 0; i < sequence.size; i++) {
                if (i == 0 || embeddings[i] != embeddings[i - 1]) {
                    int end = stretchEnd(i);
                    int ahead = i == 0 ? base : embeddings[i - 1];
                    int behind = end == sequence.size ? base : embeddings[end];
                    int own = embeddings[i];
                    int startDirection = direction(Math.max(own, ahead));
                    sortKinds(i, end, startDirection);
                    directNeutrals(i, end, startDirection, direction(Math.max(own, behind)));
                    setLevels(i, end);
                }
            }
        }

        private int stretchEnd(int start) {
            int end = start + 1;
            while (end < sequence.size && sequence.embeddings[end] == sequence.embeddings[start]) {
                end++;
            }
            return end;
        }

        private static int direction(int level) {
            return isOdd(level) ? RIGHT : LEFT;
        }

        private void sortKinds(int start, int end, int startDirection) {
            int last = startDirection;
            for (int i = start; i < end; i++) {
                char sign = sequence.signs[i];
                if (isLetter(sign)) {
                    last = isLeftLetter(sign) ? LEFT : RIGHT;
                    kinds[i] = last;
                } else if (isDigit(sign)) {
                    kinds[i] = last == LEFT ? LEFT : NUMBER;
                } else {
                    kinds[i] = NEUTRAL;
                }
            }
        }

        private void directNeutrals(int start, int end, int startDirection, int endDirection) {
            for (int i = start; i < end; i++) {
                if (kinds[i] == NEUTRAL) {
                    int stop = neutralEnd(i, end);
                    int ahead = i == start ? startDirection : side(kinds[i - 1]);
                    int behind = stop == end ? endDirection : side(kinds[stop]);
                    int found = ahead == behind ? ahead : direction(sequence.embeddings[i]);
                    for (int j = i; j < stop; j++) {
                        kinds[j] = found;
                    }
                }
            }
        }

        private int neutralEnd(int start, int end) {
            int stop = start + 1;
            while (stop < end && kinds[stop] == NEUTRAL) {
                stop++;
            }
            return stop;
        }

        private static int side(int kind) {
            return kind == LEFT ? LEFT : RIGHT;
        }

        private void setLevels(int start, int end) {
            for (int i = start; i < end; i++) {
                int embedding = sequence.embeddings[i];
                if (isOdd(embedding)) {
                    values[i] = kinds[i] == RIGHT ? embedding : embedding + 1;
                } else {
                    values[i] = kinds[i] == LEFT ? embedding : kinds[i] == RIGHT ? embedding + 1 : embedding + 2;
                }
            }
        }
    }

    /** The script and the run of each slot. */
    private static final class Runs {
        private final Sequence sequence;
        private final Levels levels;
        final int[] scripts = new int[MOST_CHARACTERS];
        final int[] numbers = new int[MOST_CHARACTERS];
        int size = 0;

        Runs(Sequence sequence, Levels levels) {
            this.sequence = sequence;
            this.levels = levels;
        }

        void divide() {
            int script = firstScript();
            size = 0;
            for (int i = 0; i < sequence.size; i++) {
                script = isLetter(sequence.signs[i]) ? letterScript(sequence.signs[i]) : script;
                scripts[i] = script;
                if (i == 0 || scripts[i] != scripts[i - 1] || levels.values[i] != levels.values[i - 1]) {
                    size++;
                }
                numbers[i] = size - 1;
            }
        }

        private int firstScript() {
            for (int i = 0; i < sequence.size; i++) {
                if (isLetter(sequence.signs[i])) {
                    return letterScript(sequence.signs[i]);
                }
            }
            return 0;
        }

        private static int letterScript(char letter) {
            if (isRightLetter(letter)) {
                return 2;
            }
            return letter <= 'm' ? 0 : 1;
        }
    }

    /** The glyphs in the order of the text, with the sums that widths and spaces of lines are taken from. */
    private static final class Glyphs {
        private final Sequence sequence;
        private final Levels slotLevels;
        private final Runs runTable;
        final int[] owners = new int[MOST_CHARACTERS];
        final int[] numbers = new int[MOST_CHARACTERS];
        final int[] starts = new int[MOST_CHARACTERS];
        final int[] levels = new int[MOST_CHARACTERS];
        final int[] widths = new int[MOST_CHARACTERS];
        final int[] widthAhead = new int[MOST_CHARACTERS + 1];
        final int[] spacesAhead = new int[MOST_CHARACTERS + 1];
        int size = 0;

        Glyphs(Sequence sequence, Levels slotLevels, Runs runTable) {
            this.sequence = sequence;
            this.slotLevels = slotLevels;
            this.runTable = runTable;
        }

        void form(Font font) {
            size = 0;
            for (int i = 0; i < sequence.size; i++) {
                int ligature = ligatureWith(i, font);
                if (ligature == NONE) {
                    numbers[size] = sequence.signs[i];
                    starts[size] = i;
                    levels[size] = slotLevels.values[i];
                    size++;
                } else {
                    numbers[size - 1] = ligature;
                }
                owners[i] = size - 1;
            }
            measure(font);
        }

        /** What the last glyph becomes with the character of this slot, or NONE. */
        private int ligatureWith(int slot, Font font) {
            if (slot == 0 || size == 0 || runTable.numbers[slot] != runTable.numbers[slot - 1]) {
                return NONE;
            }
            return font.ligature(numbers[size - 1], sequence.signs[slot]);
        }

        private void measure(Font font) {
            for (int i = 0; i < size; i++) {
                widths[i] = font.glyphWidth(numbers[i]);
                widthAhead[i + 1] = widthAhead[i] + widths[i];
                spacesAhead[i + 1] = spacesAhead[i] + (isSpace(i) ? 1 : 0);
            }
        }

        boolean isSpace(int glyph) {
            return numbers[glyph] == ' ';
        }

        boolean isHyphen(int glyph) {
            return numbers[glyph] == '-';
        }
    }

    /** The parts between the break places; a line is named by its first part and the one behind its last. */
    private static final class Parts {
        private final Glyphs glyphTable;
        /** The first glyph of each part, and behind them the number of glyphs. */
        final int[] starts = new int[MOST_CHARACTERS + 1];
        /** The glyph behind the last one of each part that is not a space. */
        final int[] ends = new int[MOST_CHARACTERS];
        int size = 0;
        boolean isBlank = true;

        Parts(Glyphs glyphTable) {
            this.glyphTable = glyphTable;
        }

        void cut() {
            size = 0;
            isBlank = true;
            for (int i = 0; i < glyphTable.size; i++) {
                if (i == 0 || isBreakAhead(i)) {
                    starts[size] = i;
                    ends[size] = i;
                    size++;
                }
                if (!glyphTable.isSpace(i)) {
                    ends[size - 1] = i + 1;
                    isBlank = false;
                }
            }
            starts[size] = glyphTable.size;
        }

        private boolean isBreakAhead(int glyph) {
            return glyph > 0 && !glyphTable.isSpace(glyph)
                    && (glyphTable.isSpace(glyph - 1) || glyphTable.isHyphen(glyph - 1));
        }

        int countBreaks() {
            return size > 0 ? size - 1 : 0;
        }

        boolean isHyphenAhead(int part) {
            return starts[part] > 0 && glyphTable.isHyphen(starts[part] - 1);
        }

        int naturalWidth(int from, int to) {
            return to > 0 ? glyphTable.widthAhead[ends[to - 1]] - glyphTable.widthAhead[starts[from]] : 0;
        }

        int keptSpaces(int from, int to) {
            return to > 0 ? glyphTable.spacesAhead[ends[to - 1]] - glyphTable.spacesAhead[starts[from]] : 0;
        }
    }

    /** The lines with the least demerits, each by its first part. */
    private static final class Lines {
        private final Parts parts;
        private final long[] best = new long[MOST_CHARACTERS + 1];
        private final int[] counts = new int[MOST_CHARACTERS + 1];
        private final int[] befores = new int[MOST_CHARACTERS + 1];
        private final boolean[] areExtended = new boolean[MOST_CHARACTERS + 1];
        /** The first part of each line, and behind them the number of parts. */
        final int[] starts = new int[MOST_CHARACTERS + 1];
        private int width = 0;
        int tooWide = NONE;
        int size = 0;
        long total = 0;
        long triedTotal = 0;
        int triedSize = 0;

        Lines(Parts parts) {
            this.parts = parts;
        }

        boolean arePossible() {
            return tooWide == NONE;
        }

        void fit(int lineWidth) {
            width = lineWidth;
            tooWide = parts.isBlank ? NONE : firstTooWide();
        }

        private int firstTooWide() {
            for (int i = 0; i < parts.size; i++) {
                if (!isPossible(i, i + 1)) {
                    return i;
                }
            }
            return NONE;
        }

        int difference(int from, int to) {
            return width - parts.naturalWidth(from, to);
        }

        private boolean isPossible(int from, int to) {
            return difference(from, to) >= -parts.keptSpaces(from, to);
        }

        int badness(int from, int to) {
            int difference = difference(from, to);
            int spaces = parts.keptSpaces(from, to);
            if (difference == 0 || difference > 0 && to == parts.size) {
                return 0;
            }
            if (spaces <= 0) {
                return WORST_BADNESS;
            }
            long unit = difference > 0 ? 2L * spaces : spaces;
            long ratio = 100L * difference * difference * Math.abs(difference) / (unit * unit * unit);
            return (int) Math.min(ratio, WORST_BADNESS);
        }

        private long demeritsOf(int from, int to) {
            long worse = 1L + badness(from, to);
            long sum = worse * worse;
            if (to < parts.size && parts.isHyphenAhead(to)) {
                sum += parts.isHyphenAhead(from) ? 5500 : 2500;
            }
            return sum;
        }

        /** No line is without demerits, so a beginning that is extended can't become better any more. */
        void find() {
            forgetBeginnings();
            for (int round = 0; round < parts.size && arePossible() && !parts.isBlank; round++) {
                int from = bestBeginning();
                if (from != NONE) {
                    areExtended[from] = true;
                    extend(from);
                }
            }
            size = counts[parts.size];
            total = best[parts.size] == NONE ? 0 : best[parts.size];
            traceBack();
        }

        private void forgetBeginnings() {
            Arrays.fill(best, NONE);
            Arrays.fill(counts, 0);
            Arrays.fill(befores, 0);
            for (int i = 0; i <= parts.size; i++) {
                areExtended[i] = false;
            }
            best[0] = 0;
        }

        private int bestBeginning() {
            int found = NONE;
            for (int i = 0; i < parts.size; i++) {
                if (!areExtended[i] && best[i] != NONE && (found == NONE || best[i] < best[found])) {
                    found = i;
                }
            }
            return found;
        }

        private void extend(int from) {
            for (int to = from + 1; to <= parts.size; to++) {
                if (isPossible(from, to)) {
                    long sum = best[from] + demeritsOf(from, to);
                    if (isBetter(from, to, sum)) {
                        best[to] = sum;
                        counts[to] = counts[from] + 1;
                        befores[to] = from;
                    }
                }
            }
        }

        private boolean isBetter(int from, int to, long sum) {
            if (best[to] == NONE || sum != best[to]) {
                return best[to] == NONE || sum < best[to];
            }
            if (counts[from] + 1 != counts[to]) {
                return counts[from] + 1 < counts[to];
            }
            return differsEarlier(from, befores[to]);
        }

        /** Compares two beginnings of as many lines: walking back, the last difference met is the first one. */
        private boolean differsEarlier(int one, int other) {
            boolean isEarlier = false;
            int part = one;
            int otherPart = other;
            for (int step = 0; step < MOST_CHARACTERS && part != otherPart; step++) {
                isEarlier = part < otherPart;
                part = befores[part];
                otherPart = befores[otherPart];
            }
            return isEarlier;
        }

        private void traceBack() {
            int part = parts.size;
            for (int line = size; line >= 0; line--) {
                starts[line] = part;
                part = befores[part];
            }
        }

        int countFirstFit() {
            int count = 0;
            int from = 0;
            for (int to = 1; to <= parts.size && !parts.isBlank; to++) {
                if (count == 0 || difference(from, to) < 0) {
                    from = to - 1;
                    count++;
                }
            }
            return count;
        }

        /** Each set of break places is a number with a bit for each of them. */
        void tryAll() {
            triedTotal = NONE;
            triedSize = 0;
            int breaks = parts.countBreaks();
            if (parts.isBlank || breaks > MOST_TRIED_BREAKS) {
                triedTotal = 0;
                return;
            }
            for (int used = 0; used < 1 << breaks; used++) {
                trySet(used);
            }
        }

        private void trySet(int used) {
            long sum = 0;
            int from = 0;
            for (int to = 1; to <= parts.size; to++) {
                if (to == parts.size || (used >> to - 1 & 1) == 1) {
                    if (!isPossible(from, to)) {
                        return;
                    }
                    sum += demeritsOf(from, to);
                    from = to;
                }
            }
            int count = Integer.bitCount(used) + 1;
            if (triedTotal == NONE || sum < triedTotal || sum == triedTotal && count < triedSize) {
                triedTotal = sum;
                triedSize = count;
            }
        }
    }

    /** The glyphs of each line in visual order, with their places and widths. */
    private static final class Rows {
        private final Glyphs glyphTable;
        private final Parts parts;
        private final Lines lineTable;
        final int[] lines = new int[MOST_CHARACTERS];
        /** The glyphs from the left to the right, line behind line. */
        final int[] order = new int[MOST_CHARACTERS];
        final int[] ranks = new int[MOST_CHARACTERS];
        final int[] places = new int[MOST_CHARACTERS];
        final int[] widths = new int[MOST_CHARACTERS];

        Rows(Glyphs glyphTable, Parts parts, Lines lineTable) {
            this.glyphTable = glyphTable;
            this.parts = parts;
            this.lineTable = lineTable;
        }

        int startOf(int line) {
            return parts.starts[lineTable.starts[line]];
        }

        /** The glyph behind the last one of the line that is not dropped. */
        int endOf(int line) {
            int behind = lineTable.starts[line + 1];
            return behind > 0 ? parts.ends[behind - 1] : 0;
        }

        void arrange(int base) {
            Arrays.fill(ranks, NONE);
            for (int line = 0; line < lineTable.size; line++) {
                for (int i = startOf(line); i < startOf(line + 1); i++) {
                    lines[i] = line;
                }
                orderLine(startOf(line), endOf(line));
                placeLine(line, base);
            }
        }

        private void orderLine(int start, int end) {
            int highest = 0;
            for (int i = start; i < end; i++) {
                order[i] = i;
                highest = Math.max(highest, glyphTable.levels[i]);
            }
            for (int level = highest; level > 0; level--) {
                reverseFrom(level, start, end);
            }
            for (int i = start; i < end; i++) {
                ranks[order[i]] = i - start;
            }
        }

        private void reverseFrom(int level, int start, int end) {
            int first = start;
            for (int i = start; i <= end; i++) {
                if (i == end || glyphTable.levels[order[i]] < level) {
                    reverse(first, i - 1);
                    first = i + 1;
                }
            }
        }

        private void reverse(int first, int last) {
            for (int i = first, j = last; i < j; i++, j--) {
                int glyph = order[i];
                order[i] = order[j];
                order[j] = glyph;
            }
        }

        private void placeLine(int line, int base) {
            int from = lineTable.starts[line];
            int to = lineTable.starts[line + 1];
            int difference = lineTable.difference(from, to);
            int spaces = parts.keptSpaces(from, to);
            boolean isJustified = spaces > 0 && (difference < 0 || to < parts.size);
            takeWidths(line);
            if (isJustified) {
                justify(line, difference, spaces);
            }
            int place = isJustified || base == 0 ? 0 : difference;
            for (int i = startOf(line); i < endOf(line); i++) {
                places[order[i]] = place;
                place += widths[order[i]];
            }
        }

        private void takeWidths(int line) {
            for (int i = startOf(line); i < endOf(line); i++) {
                widths[i] = glyphTable.widths[i];
            }
        }

        private void justify(int line, int difference, int spaces) {
            if (spaces <= 0) {
                return;
            }
            // The division rounds towards 0, so it rounds down the size of a negative difference, too.
            int each = difference / spaces;
            int oneMore = difference < 0 ? -1 : 1;
            int rest = Math.abs(difference % spaces);
            for (int i = startOf(line); i < endOf(line); i++) {
                if (glyphTable.isSpace(order[i])) {
                    widths[order[i]] += rest > 0 ? each + oneMore : each;
                    rest--;
                }
            }
        }

        /** The second way: of two glyphs the earlier one stands to the left if the lowest level there is even. */
        int countRank(int glyph) {
            int line = lines[glyph];
            int rank = 0;
            int lowest = glyphTable.levels[glyph];
            for (int i = glyph - 1; i >= startOf(line); i--) {
                lowest = Math.min(lowest, glyphTable.levels[i]);
                rank += isOdd(lowest) ? 0 : 1;
            }
            lowest = glyphTable.levels[glyph];
            for (int i = glyph + 1; i < endOf(line); i++) {
                lowest = Math.min(lowest, glyphTable.levels[i]);
                rank += isOdd(lowest) ? 1 : 0;
            }
            return rank;
        }
    }
}
