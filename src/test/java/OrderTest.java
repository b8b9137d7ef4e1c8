/** Promises 32 to 39: visual order, places, justified widths and the means of the lines. */
public final class OrderTest {
    public static void main(String[] args) {
        orderOfOneLine();
        orderOfDeepLevels();
        orderOfManyLines();
        orderOfLigatures();
        orderWithoutDropped();
        placesOfLastLines();
        stretchedSpaces();
        shrunkSpaces();
        linesWithoutSpaces();
        blankFirstLine();
        hyphenShare();
        meanBadness();
        withoutLines();
        notPossible();
        Check.end();
    }

    private static Glyphmill mill(boolean isRight, int lineWidth, String text) {
        Glyphmill mill = new Glyphmill();
        mill.setBase(isRight);
        mill.setLine(lineWidth);
        Check.type(mill, text);
        return mill;
    }

    private static void dueRanks(Glyphmill mill, String what, String want) {
        Check.due(what + ": rankOf", want, () -> Check.each(mill, mill::rankOf));
        Check.due(what + ": rankByCounting", want, () -> Check.each(mill, mill::rankByCounting));
    }

    /** The glyphs of a line from left to right, by their first characters. */
    private static void dueRow(Glyphmill mill, String what, int line, String want) {
        int size = want.isEmpty() ? 0 : want.split(" ").length;
        Check.due(what + ": glyphsOf " + line, size, () -> mill.glyphsOf(line));
        StringBuilder all = new StringBuilder();
        for (int r = 0; r < size; r++) {
            int rank = r;
            all.append(r > 0 ? " " : "").append(Check.answer(() -> mill.glyphAt(line, rank)));
        }
        Check.due(what + ": glyphAt of " + line, want, all::toString);
        for (int rank : new int[] {-1, size, size + 1, Integer.MIN_VALUE, Integer.MAX_VALUE}) {
            Check.due(what + ": glyphAt " + line + " " + rank, Check.INDEX, () -> mill.glyphAt(line, rank));
        }
    }

    private static void duePlaces(Glyphmill mill, String what, String places, String widths) {
        Check.due(what + ": placeOf", places, () -> Check.each(mill, mill::placeOf));
        Check.due(what + ": justifiedWidth", widths, () -> Check.each(mill, mill::justifiedWidth));
    }

    private static void orderOfOneLine() {
        Glyphmill mill = mill(false, 60, "a AB 12");
        dueRanks(mill, "left to right", "0 1 6 5 4 2 3");
        dueRow(mill, "left to right", 0, "0 1 5 6 4 3 2");
        mill.setBase(true);
        dueRanks(mill, "right to left", "6 5 4 3 2 0 1");
        dueRow(mill, "right to left", 0, "5 6 4 3 2 1 0");
        dueRanks(mill(false, 60, "abc"), "left letters", "0 1 2");
        dueRanks(mill(true, 60, "abc"), "left letters in a right line", "0 1 2");
        dueRanks(mill(false, 60, "ABC"), "right letters", "2 1 0");
        dueRow(mill(false, 60, "A"), "one letter", 0, "0");
    }

    private static void orderOfDeepLevels() {
        // levels 0 1 2 3 2 1 0: the levels from 3 on, then from 2 on, then from 1 on are reversed
        Glyphmill mill = mill(false, 60, "a{B[c{DE}fg}H}i");
        Check.due("deep levels", "0 m 1 m 2 m 3 3 m 2 2 m 1 m 0", () -> Check.levels(mill));
        dueRow(mill, "deep levels", 0, "0 12 4 7 6 9 10 2 14");
        dueRanks(mill, "deep levels", "0 m 7 m 2 m 4 3 m 5 6 m 1 m 8");
        // a level that is skipped: 0 2 0, and 1 4 1
        dueRanks(mill(false, 60, "a[bc}d"), "skipped levels", "0 m 1 2 m 3");
        dueRanks(mill(true, 60, "A{[bc}}D"), "skipped levels from right to left", "3 m m 1 2 m m 0");
    }

    private static void orderOfManyLines() {
        Glyphmill mill = mill(false, 20, "AB cd EF gh");
        // the levels are 1 1 0 0 0 0 1 1 0 0 0, and each line is put into order alone
        dueRanks(mill, "two lines", "1 0 2 3 4 - 1 0 2 3 4");
        dueRow(mill, "two lines", 0, "1 0 2 3 4");
        dueRow(mill, "two lines", 1, "7 6 8 9 10");
        for (int line : new int[] {-1, 2, Integer.MIN_VALUE, Integer.MAX_VALUE}) {
            Check.refuses(mill, "glyphsOf " + line, Check.INDEX, () -> mill.glyphsOf(line));
            Check.refuses(mill, "glyphAt " + line, Check.INDEX, () -> mill.glyphAt(line, 0));
        }
        Glyphmill right = mill(false, 20, "AB CD EF GH");
        dueRanks(right, "two right lines", "4 3 2 1 0 - 4 3 2 1 0");
    }

    private static void orderOfLigatures() {
        Glyphmill mill = mill(false, 60, "xABfi");
        mill.addLigature('A', 'B', 30);
        mill.addLigature('f', 'i', 5);
        dueRanks(mill, "ligatures", "0 1 1 2 2");
        dueRow(mill, "ligatures", 0, "0 1 3");
        duePlaces(mill, "ligatures", "0 4 4 34 34", "4 30 30 5 5");
        mill.setBase(true);
        dueRanks(mill, "ligatures from right to left", "2 1 1 0 0");
        duePlaces(mill, "ligatures from right to left", "56 26 26 21 21", "4 30 30 5 5");
    }

    private static void orderWithoutDropped() {
        Glyphmill mill = mill(true, 60, "AB  ");
        dueRanks(mill, "dropped at the end", "1 0 - -");
        dueRow(mill, "dropped at the end", 0, "1 0");
        Check.refuses(mill, "rankOf of a dropped space", Check.NO_ELEMENT, () -> mill.rankOf(2));
        Check.refuses(mill, "rankByCounting of a dropped space", Check.NO_ELEMENT, () -> mill.rankByCounting(3));
        Check.refuses(mill, "placeOf of a dropped space", Check.NO_ELEMENT, () -> mill.placeOf(2));
        Check.refuses(mill, "justifiedWidth of a dropped space", Check.NO_ELEMENT, () -> mill.justifiedWidth(3));
        Check.due("lineOf of a dropped space", 0, () -> mill.lineOf(3));
        Check.due("glyphs with the dropped", 4, mill::glyphs);
        Check.type(mill, "C");
        dueRanks(mill, "no more dropped", "4 3 2 1 0");
    }

    private static void placesOfLastLines() {
        duePlaces(mill(false, 60, "a AB 12"), "left to right", "0 4 24 20 16 8 12", "4 4 4 4 4 4 4");
        duePlaces(mill(true, 60, "a AB 12"), "right to left", "56 52 48 44 40 32 36", "4 4 4 4 4 4 4");
        Glyphmill mill = mill(true, 60, "aA");
        mill.setWidth('A', 9);
        duePlaces(mill, "other widths", "56 47", "4 9");
        mill.setLine(13);
        duePlaces(mill, "an exact width", "9 0", "4 9");
        duePlaces(mill(true, 20, "A   B"), "an exact width with spaces", "16 12 8 4 0", "4 4 4 4 4");
    }

    private static void stretchedSpaces() {
        duePlaces(mill(false, 20, "a a aaaa"), "one space", "0 4 16 - 0 4 8 12", "4 12 4 - 4 4 4 4");
        duePlaces(mill(true, 20, "A A AAAA"), "one space from right to left", "16 4 0 - 16 12 8 4",
                "4 12 4 - 4 4 4 4");
        // a difference of 3 and two spaces: the left one of them becomes wider by 2, the other one by 1
        duePlaces(mill(false, 23, "a b c ddddd"), "a remainder", "0 4 10 14 19 - 0 4 8 12 16",
                "4 6 4 5 4 - 4 4 4 4 4");
        duePlaces(mill(true, 23, "A B C DDDDD"), "a remainder from right to left", "19 14 10 4 0 - 19 15 11 7 3",
                "4 5 4 6 4 - 4 4 4 4 4");
        // in a right line left words keep their order, and so do the spaces between them
        duePlaces(mill(true, 23, "a b c ddddd"), "a remainder among left letters", "0 4 10 14 19 - 3 7 11 15 19",
                "4 6 4 5 4 - 4 4 4 4 4");
        // a difference of 11 and three spaces: 4, 4 and 3 more
        duePlaces(mill(false, 35, "a  b c " + "d".repeat(8)), "two spaces side by side",
                "0 4 12 20 24 31 - 0 4 8 12 16 20 24 28", "4 8 8 4 7 4 - 4 4 4 4 4 4 4 4");
        // leading spaces are stretched, too
        duePlaces(mill(false, 10, " a aa"), "a leading space", "0 6 - 0 4", "6 4 - 4 4");
    }

    private static void shrunkSpaces() {
        duePlaces(mill(false, 19, "aa bb"), "one space", "0 4 8 11 15", "4 4 3 4 4");
        duePlaces(mill(true, 19, "AA BB"), "one space from right to left", "15 11 8 4 0", "4 4 3 4 4");
        duePlaces(mill(false, 19, "a b c"), "the first of two", "0 4 7 11 15", "4 3 4 4 4");
        duePlaces(mill(true, 19, "A B C"), "the left one of two", "15 11 7 4 0", "4 4 4 3 4");
        duePlaces(mill(false, 18, "a b c"), "both", "0 4 7 11 14", "4 3 4 3 4");
        duePlaces(mill(false, 26, "a b c d"), "two of three", "0 4 7 11 14 18 22", "4 3 4 3 4 4 4");
        duePlaces(mill(false, 25, "a b c d eeee"), "all of three, not in the last line",
                "0 4 7 11 14 18 21 - 0 4 8 12", "4 3 4 3 4 3 4 - 4 4 4 4");
        Glyphmill mill = mill(false, 16, "aa bb");
        mill.setWidth(' ', 1);
        duePlaces(mill, "a space of no width", "0 4 8 8 12", "4 4 0 4 4");
    }

    private static void linesWithoutSpaces() {
        duePlaces(mill(false, 20, "aaa-bbb"), "left to right", "0 4 8 12 0 4 8", "4 4 4 4 4 4 4");
        duePlaces(mill(true, 20, "AAA-BBB"), "right to left", "16 12 8 4 16 12 8", "4 4 4 4 4 4 4");
        duePlaces(mill(true, 20, "AAAA BBBBB"), "a dropped space", "16 12 8 4 - 16 12 8 4 0",
                "4 4 4 4 - 4 4 4 4 4");
    }

    private static void blankFirstLine() {
        Glyphmill mill = mill(true, 10, " [ }AA");
        dueRow(mill, "a first line of spaces", 0, "");
        dueRow(mill, "the line behind it", 1, "5 4");
        dueRanks(mill, "a first line of spaces", "- m - m 1 0");
        duePlaces(mill, "a first line of spaces", "- m - m 6 2", "- m - m 4 4");
        Check.due("its width", 0, () -> mill.widthOf(0));
        Check.due("its badness", 10000, () -> mill.badnessOf(0));
        Check.due("the mean badness", 5000.0, mill::meanBadness);
        Check.due("the share of hyphens", 0f, mill::hyphenShare);
    }

    private static Glyphmill hyphened(String text) {
        Glyphmill mill = mill(false, 10, text);
        mill.setWidth('-', 2);
        return mill;
    }

    private static void hyphenShare() {
        Check.due("no hyphens", 0f, () -> hyphened("aa bb").hyphenShare());
        Check.due("one of two", 0.5f, () -> hyphened("aa-bb").hyphenShare());
        Check.due("two of three", 2f / 3f, () -> hyphened("aa-bb-cc").hyphenShare());
        Check.due("one of three", 1f / 3f, () -> hyphened("aa-bb cc").hyphenShare());
        Check.due("three of three", 1f, () -> hyphened("aa-bb-cc-").hyphenShare());
        Check.due("a mark behind the last hyphen", 1f, () -> hyphened("aa-[bb-}").hyphenShare());
        Check.due("a space behind the hyphen", 0f, () -> hyphened("aa- bb- ").hyphenShare());
        Check.due("one of one", 1f, () -> hyphened("-").hyphenShare());
        Check.due("one of seven", 1f / 7f, () -> hyphened("aa bb aa-bb aa bb aa").hyphenShare());
    }

    private static void meanBadness() {
        Check.due("one line", 0.0, () -> mill(false, 60, "ab").meanBadness());
        Check.due("one line that is shrunk", 12.0, () -> mill(false, 19, "a b c").meanBadness());
        Check.due("two lines", 3200.0, () -> mill(false, 20, "a a aaaa").meanBadness());
        Check.due("535 of two", 267.5, () -> mill(false, 27, "a b c ddddd").meanBadness());
        Check.due("three lines", 10000.0 / 3.0, () -> hyphened("aa-b aa").meanBadness());
        Check.due("20000 of three", 20000.0 / 3.0, () -> hyphened("aa bb cc").meanBadness());
    }

    private static void withoutLines() {
        Glyphmill empty = new Glyphmill();
        Check.refuses(empty, "hyphenShare", Check.ARITHMETIC, empty::hyphenShare);
        Check.refuses(empty, "meanBadness", Check.ARITHMETIC, empty::meanBadness);
        Glyphmill mill = Check.mill(" [ ");
        Check.refuses(mill, "hyphenShare of spaces", Check.ARITHMETIC, mill::hyphenShare);
        Check.refuses(mill, "meanBadness of spaces", Check.ARITHMETIC, mill::meanBadness);
        Check.refuses(mill, "glyphsOf of spaces", Check.INDEX, () -> mill.glyphsOf(0));
        Check.refuses(mill, "glyphAt of spaces", Check.INDEX, () -> mill.glyphAt(0, 0));
        dueRefusals(mill, -1, Check.INDEX);
        dueRefusals(mill, 3, Check.INDEX);
        dueRefusals(mill, 1, Check.UNSUPPORTED);
        dueRefusals(mill, 0, Check.NO_ELEMENT);
        dueRefusals(mill, 2, Check.NO_ELEMENT);
    }

    private static void notPossible() {
        Glyphmill mill = mill(false, 10, "aa [aaa ");
        Check.refuses(mill, "hyphenShare", Check.STATE, mill::hyphenShare);
        Check.refuses(mill, "meanBadness", Check.STATE, mill::meanBadness);
        for (int line : new int[] {-1, 0, 9}) {
            Check.refuses(mill, "glyphsOf " + line, Check.STATE, () -> mill.glyphsOf(line));
            Check.refuses(mill, "glyphAt " + line, Check.STATE, () -> mill.glyphAt(line, 0));
            Check.refuses(mill, "glyphAt -1 of " + line, Check.STATE, () -> mill.glyphAt(line, -1));
        }
        dueRefusals(mill, Integer.MIN_VALUE, Check.INDEX);
        dueRefusals(mill, -1, Check.INDEX);
        dueRefusals(mill, 8, Check.INDEX);
        dueRefusals(mill, Integer.MAX_VALUE, Check.INDEX);
        dueRefusals(mill, 3, Check.UNSUPPORTED);
        dueRefusals(mill, 0, Check.STATE);
        dueRefusals(mill, 7, Check.STATE);
    }

    private static void dueRefusals(Glyphmill mill, int index, String exception) {
        Check.refuses(mill, "lineOf " + index, exception, () -> mill.lineOf(index));
        Check.refuses(mill, "rankOf " + index, exception, () -> mill.rankOf(index));
        Check.refuses(mill, "rankByCounting " + index, exception, () -> mill.rankByCounting(index));
        Check.refuses(mill, "placeOf " + index, exception, () -> mill.placeOf(index));
        Check.refuses(mill, "justifiedWidth " + index, exception, () -> mill.justifiedWidth(index));
    }
}
