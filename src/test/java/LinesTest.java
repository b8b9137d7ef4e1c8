/** Promises 19 to 31: break places, parts that are too wide, lines and demerits. */
public final class LinesTest {
    public static void main(String[] args) {
        breakPlaces();
        partsTooWide();
        exactWidths();
        withoutLines();
        notPossible();
        linesOfWords();
        shrunkLines();
        stretchedLines();
        droppedSpaces();
        blankFirstLine();
        hyphens();
        leastDemerits();
        fewestLines();
        firstLineThatEndsEarlier();
        firstFit();
        byTrying();
        refusals();
        Check.end();
    }

    private static Glyphmill mill(int lineWidth, String text) {
        Glyphmill mill = new Glyphmill();
        mill.setLine(lineWidth);
        Check.type(mill, text);
        return mill;
    }

    private static void dueBreaks(String text, int... want) {
        Glyphmill mill = Check.mill(text);
        Check.due("breaks of " + text, want.length, mill::breaks);
        for (int r = 0; r < want.length; r++) {
            int rank = r;
            Check.due("breakAt " + r + " of " + text, want[r], () -> mill.breakAt(rank));
        }
        for (int rank : new int[] {-1, want.length, want.length + 1, Integer.MIN_VALUE, Integer.MAX_VALUE}) {
            Check.refuses(mill, "breakAt " + rank + " of " + text, Check.INDEX, () -> mill.breakAt(rank));
        }
    }

    private static void breakPlaces() {
        dueBreaks("");
        dueBreaks("   ");
        dueBreaks("[ }");
        dueBreaks("a,b.c1");
        dueBreaks("a b", 2);
        dueBreaks("a ");
        dueBreaks("a-");
        dueBreaks(" a", 1);
        dueBreaks("-a", 1);
        dueBreaks("a   b", 4);
        dueBreaks("a- b", 3);
        dueBreaks("a -b", 2, 3);
        dueBreaks("---", 1, 2);
        dueBreaks("ab cd-ef  g--h -i", 3, 6, 10, 12, 13, 15, 16);
        dueBreaks("a [b}-{}c", 3, 8);
        dueBreaks("[ }{,", 4);
        dueBreaks("A 1 .", 2, 4);
    }

    private static void dueTooWide(int lineWidth, String text, int first, int excess) {
        Glyphmill mill = mill(lineWidth, text);
        Check.due("tooWide of " + text, first, mill::tooWide);
        Check.due("excess of " + text, excess, mill::excess);
        if (first >= 0) {
            Check.due("lines of " + text, Check.STATE, mill::lines);
        }
    }

    private static void partsTooWide() {
        dueTooWide(10, "", -1, 0);
        dueTooWide(10, "          ", -1, 0);
        dueTooWide(10, "aa", -1, 0);
        dueTooWide(10, "aaa", 0, 2);
        dueTooWide(10, "aaa bb", 0, 2);
        dueTooWide(10, "bb aaa", 3, 2);
        dueTooWide(10, "bb [aaa", 4, 2);
        dueTooWide(10, "[{aaa", 2, 2);
        dueTooWide(10, "bb a.ab aaaaa", 3, 6);
        dueTooWide(10, "aa-bb", 0, 2);
        dueTooWide(10, "a-aa aaa-", 5, 6);
        dueTooWide(10, "aa     ", -1, 0);
        dueTooWide(10, "     aa", -1, 0);
        dueTooWide(10, "a a a a a a", -1, 0);
    }

    private static void exactWidths() {
        dueTooWide(12, "aaa", -1, 0);
        dueTooWide(11, "aaa", 0, 1);
        Glyphmill mill = mill(12, "a fil");
        mill.addLigature('f', 'i', 9);
        Check.due("tooWide with a wide ligature", 2, mill::tooWide);
        Check.due("excess with a wide ligature", 1, mill::excess);
        mill.addLigature(200, 'l', 12);
        Check.due("tooWide with a narrow ligature", -1, mill::tooWide);
        Check.due("lines with a narrow ligature", 2, mill::lines);
        mill.setLine(10);
        Check.due("tooWide in a narrow line", 2, mill::tooWide);
        Check.due("excess in a narrow line", 2, mill::excess);
    }

    private static void withoutLines() {
        for (String text : new String[] {"", "   ", "[{", "[ } "}) {
            Glyphmill mill = Check.mill(text);
            Check.due("lines of blank text", 0, mill::lines);
            Check.due("linesByFirstFit of blank text", 0, mill::linesByFirstFit);
            Check.due("demerits of blank text", 0, mill::demerits);
            Check.due("demeritsByTrying of blank text", 0, mill::demeritsByTrying);
            Check.due("linesByTrying of blank text", 0, mill::linesByTrying);
            Check.refuses(mill, "firstOf of blank text", Check.INDEX, () -> mill.firstOf(0));
            Check.refuses(mill, "widthOf of blank text", Check.INDEX, () -> mill.widthOf(0));
            Check.refuses(mill, "badnessOf of blank text", Check.INDEX, () -> mill.badnessOf(0));
        }
        Glyphmill wide = mill(10, " ".repeat(50));
        wide.setWidth(' ', 20);
        Check.due("lines of wide spaces", 0, wide::lines);
        Check.due("tooWide of wide spaces", -1, wide::tooWide);
        Check.refuses(wide, "lineOf of wide spaces", Check.NO_ELEMENT, () -> wide.lineOf(49));
        Glyphmill mark = Check.mill("[");
        Check.refuses(mark, "lineOf of a mark alone", Check.UNSUPPORTED, () -> mark.lineOf(0));
    }

    private static void notPossible() {
        Glyphmill mill = mill(10, "aa [aaa");
        Check.refuses(mill, "lines", Check.STATE, mill::lines);
        Check.refuses(mill, "linesByFirstFit", Check.STATE, mill::linesByFirstFit);
        Check.refuses(mill, "demerits", Check.STATE, mill::demerits);
        Check.refuses(mill, "demeritsByTrying", Check.STATE, mill::demeritsByTrying);
        Check.refuses(mill, "linesByTrying", Check.STATE, mill::linesByTrying);
        for (int line : new int[] {-1, 0, 7, Integer.MIN_VALUE, Integer.MAX_VALUE}) {
            Check.refuses(mill, "firstOf " + line, Check.STATE, () -> mill.firstOf(line));
            Check.refuses(mill, "widthOf " + line, Check.STATE, () -> mill.widthOf(line));
            Check.refuses(mill, "badnessOf " + line, Check.STATE, () -> mill.badnessOf(line));
        }
        Check.refuses(mill, "lineOf 0", Check.STATE, () -> mill.lineOf(0));
        Check.refuses(mill, "lineOf 3", Check.UNSUPPORTED, () -> mill.lineOf(3));
        Check.refuses(mill, "lineOf 7", Check.INDEX, () -> mill.lineOf(7));
        Check.refuses(mill, "lineOf -1", Check.INDEX, () -> mill.lineOf(-1));
        mill.setLine(12);
        Check.due("lines in a wider line", 2, mill::lines);
    }

    /** The lines as they begin, their widths and their badness; the sum of demerits in both ways. */
    private static void dueLines(Glyphmill mill, String what, long demerits, String firsts, String widths,
            String badness) {
        int lines = firsts.split(" ").length;
        Check.due(what + ": lines", lines, mill::lines);
        Check.due(what + ": demerits", demerits, mill::demerits);
        if (mill.breaks() <= 9) {
            Check.due(what + ": linesByTrying", lines, mill::linesByTrying);
            Check.due(what + ": demeritsByTrying", demerits, mill::demeritsByTrying);
        }
        Check.due(what + ": firstOf", firsts, () -> eachLine(lines, mill::firstOf));
        Check.due(what + ": widthOf", widths, () -> eachLine(lines, mill::widthOf));
        Check.due(what + ": badnessOf", badness, () -> eachLine(lines, mill::badnessOf));
        for (int line : new int[] {-1, lines, Integer.MIN_VALUE, Integer.MAX_VALUE}) {
            Check.due(what + ": firstOf " + line, Check.INDEX, () -> mill.firstOf(line));
            Check.due(what + ": widthOf " + line, Check.INDEX, () -> mill.widthOf(line));
            Check.due(what + ": badnessOf " + line, Check.INDEX, () -> mill.badnessOf(line));
        }
    }

    private static String eachLine(int lines, Check.OfIndex question) {
        StringBuilder all = new StringBuilder();
        for (int line = 0; line < lines; line++) {
            all.append(line > 0 ? " " : "").append(question.of(line));
        }
        return all.toString();
    }

    private static void linesOfWords() {
        dueLines(mill(60, "ab"), "one word", 1, "0", "8", "0");
        Glyphmill mill = mill(10, "aa {bb}");
        dueLines(mill, "two words", 100020002, "0 4", "8 8", "10000 0");
        Check.due("lineOf", "0 0 0 m 1 1 m", () -> Check.each(mill, mill::lineOf));
        mill.setLine(20);
        dueLines(mill, "two words in a line", 1, "0", "20", "0");
        Check.due("lineOf in a line", "0 0 0 m 0 0 m", () -> Check.each(mill, mill::lineOf));
    }

    private static void shrunkLines() {
        dueLines(mill(19, "aa bb"), "shrunk by 1 of 1", 10201, "0", "20", "100");
        dueLines(mill(18, "aa bb"), "too wide by 1", 100020002, "0 3", "8 8", "10000 0");
        dueLines(mill(19, "a b c"), "shrunk by 1 of 2", 169, "0", "20", "12");
        dueLines(mill(18, "a b c"), "shrunk by 2 of 2", 10201, "0", "20", "100");
        dueLines(mill(26, "a b c d"), "shrunk by 2 of 3", 900, "0", "28", "29");
        dueLines(mill(25, "a b c d eeee"), "a shrunk line that is not the last", 10202, "0 8", "28 16", "100 0");
        Glyphmill leading = mill(11, " aa");
        dueLines(leading, "a leading space that is shrunk", 10201, "0", "12", "100");
        Glyphmill two = mill(18, "aa  bb");
        two.setWidth(' ', 2);
        dueLines(two, "two spaces side by side", 10201, "0", "20", "100");
    }

    private static void stretchedLines() {
        dueLines(mill(20, "a a aaaa"), "stretched by 8 of 1", 40972802, "0 4", "12 16", "6400 0");
        dueLines(mill(27, "a b c ddddd"), "stretched by 7 of 2", 287297, "0 6", "20 20", "535 0");
        dueLines(mill(60, "a b " + "c".repeat(15)), "stretched beyond the most", 100020002, "0 4", "12 60", "10000 0");
        dueLines(mill(60, "a b"), "the last line is not stretched", 1, "0", "12", "0");
    }

    private static void droppedSpaces() {
        Glyphmill mill = mill(12, "aaa   bb[  ");
        dueLines(mill, "dropped spaces", 2, "0 6", "12 8", "0 0");
        Check.due("lineOf of dropped spaces", "0 0 0 0 0 0 1 1 m 1 1", () -> Check.each(mill, mill::lineOf));
        mill.setWidth(' ', 20);
        dueLines(mill, "wide dropped spaces", 2, "0 6", "12 8", "0 0");
    }

    private static void blankFirstLine() {
        Glyphmill mill = mill(10, "[ } aa bb");
        dueLines(mill, "a first line of spaces", 200040003, "1 4 7", "0 8 8", "10000 10000 0");
        Check.due("lineOf with a first line of spaces", "m 0 m 0 1 1 1 2 2", () -> Check.each(mill, mill::lineOf));
        Check.due("linesByFirstFit with a first line of spaces", 3, mill::linesByFirstFit);
        dueLines(mill(12, "  a bb"), "leading spaces that fit", 2, "0 4", "12 8", "0 0");
    }

    private static Glyphmill hyphened(String text) {
        Glyphmill mill = mill(10, text);
        mill.setWidth('-', 2);
        return mill;
    }

    private static void hyphens() {
        dueLines(hyphened("aa-bb"), "a hyphen", 2502, "0 3", "10 8", "0 0");
        dueLines(hyphened("aa-bb-cc"), "two hyphens", 8003, "0 3 6", "10 10 8", "0 0 0");
        dueLines(hyphened("aa-bb-cc-"), "a hyphen at the end", 8003, "0 3 6", "10 10 10", "0 0 0");
        dueLines(hyphened("aa-bb-cc-dd"), "three hyphens", 13504, "0 3 6 9", "10 10 10 8", "0 0 0 0");
        dueLines(hyphened("aa- bb"), "a space behind the hyphen", 2, "0 4", "10 8", "0 0");
        dueLines(hyphened("aa-[}bb"), "marks behind the hyphen", 2502, "0 5", "10 8", "0 0");
        Glyphmill mill = mill(10, "aa-bc aa-bb");
        mill.setWidth('-', 2);
        mill.setWidth('c', 6);
        dueLines(mill, "hyphens that do not follow", 5004, "0 3 6 9", "10 10 10 8", "0 0 0 0");
    }

    private static void leastDemerits() {
        // a first line "a a a" would fit exactly, but leave "b" alone on a line with a badness of 10000
        Glyphmill mill = mill(20, "a a a b ccccc");
        dueLines(mill, "a first line that leaves room", 81945603, "0 4 8", "12 12 20", "6400 6400 0");
        Check.due("first fit of the same", 3, mill::linesByFirstFit);
    }

    private static void fewestLines() {
        Glyphmill mill = mill(15, "b a b a b c a c c a b");
        mill.setWidth('a', 1);
        mill.setWidth('b', 2);
        mill.setWidth(' ', 1);
        // 49 + 4 with two lines, 36 + 16 + 1 with three
        dueLines(mill, "the same sum with fewer lines", 53, "0 12", "17 16", "6 1");
        Check.due("trying with 10 break places", Check.UNSUPPORTED, mill::linesByTrying);
    }

    private static void firstLineThatEndsEarlier() {
        Glyphmill mill = mill(10, "a a a aaa");
        mill.setWidth('a', 3);
        dueLines(mill, "the same sum with as many lines", 100020003, "0 2 6", "3 10 9", "10000 0 0");
        Glyphmill more = mill(10, "a a a a a aaa");
        more.setWidth('a', 3);
        dueLines(more, "the same sum in three ways", 100020004, "0 2 6 10", "3 10 10 9", "10000 0 0 0");
        Glyphmill shrunk = mill(10, "b c a b c d");
        shrunk.setWidth(' ', 1);
        shrunk.setWidth('a', 1);
        shrunk.setWidth('c', 5);
        shrunk.setWidth('d', 10);
        dueLines(shrunk, "the same sum with the other line shrunk", 10203, "0 4 10", "10 12 10", "0 100 0");
        Glyphmill longer = mill(10, "aaa a a a aaa a a a aaa");
        longer.setWidth('a', 3);
        dueLines(longer, "the same sums twice", 400080007, "0 4 6 10 14 16 20", "9 3 10 9 3 10 9",
                "10000 10000 0 10000 10000 0 0");
    }

    private static void firstFit() {
        Check.due("first fit does not shrink", 2, () -> mill(19, "aa bb").linesByFirstFit());
        Check.due("first fit fills exactly", 1, () -> mill(20, "aa bb").linesByFirstFit());
        Check.due("first fit of the same", 1, () -> mill(19, "aa bb").lines());
        Check.due("first fit drops spaces", 2, () -> mill(20, "aa bb     cc").linesByFirstFit());
        Check.due("first fit of words", 3, () -> mill(20, "a a a a a a a").linesByFirstFit());
        Check.due("first fit of hyphens", 3, () -> mill(10, "a-b-c-").linesByFirstFit());
        Check.due("first fit of one line", 1, () -> mill(200, "a b c d e f g h i j k l").linesByFirstFit());
        Check.due("first fit of leading spaces", 1, () -> mill(12, "  a").linesByFirstFit());
        Check.due("first fit of more leading spaces", 2, () -> mill(12, "   a").linesByFirstFit());
    }

    private static void byTrying() {
        Glyphmill mill = mill(20, "a a a a a a a a a a");
        Check.due("9 break places", 9, mill::breaks);
        Check.due("demeritsByTrying of 9", mill.demerits(), mill::demeritsByTrying);
        Check.due("linesByTrying of 9", mill.lines(), mill::linesByTrying);
        Check.type(mill, " a");
        Check.due("10 break places", 10, mill::breaks);
        Check.refuses(mill, "demeritsByTrying of 10", Check.UNSUPPORTED, mill::demeritsByTrying);
        Check.refuses(mill, "linesByTrying of 10", Check.UNSUPPORTED, mill::linesByTrying);
        Check.type(mill, "aaaaa");
        Check.refuses(mill, "demeritsByTrying of 10 that are not possible", Check.STATE, mill::demeritsByTrying);
        Check.refuses(mill, "linesByTrying of 10 that are not possible", Check.STATE, mill::linesByTrying);
        Glyphmill most = mill(10, "-".repeat(50));
        most.setWidth('-', 1);
        Check.due("49 break places", 49, most::breaks);
        // ten in each line; each line but the last adds a hyphen's demerits, and each but the first 3000 more
        Check.due("demerits of 50 hyphens", 4 * 2501 + 3 * 3000 + 1, most::demerits);
        Check.due("lines of 50 hyphens", 5, most::lines);
        most.setWidth('-', 10);
        Check.due("50 lines", 50, most::lines);
        Check.due("first fit of 50 lines", 50, most::linesByFirstFit);
        Check.due("demerits of 50 lines", 49 * 2501 + 48 * 3000 + 1, most::demerits);
        Check.due("firstOf the last of 50 lines", 49, () -> most.firstOf(49));
        Check.due("firstOf behind 50 lines", Check.INDEX, () -> most.firstOf(50));
        Check.due("lineOf in 50 lines", 31, () -> most.lineOf(31));
        most.setWidth('-', 11);
        Check.due("50 parts that are too wide", 0, most::tooWide);
    }

    private static void refusals() {
        Glyphmill mill = mill(10, "aa {bb}");
        for (int index : new int[] {-1, 7, Integer.MIN_VALUE, Integer.MAX_VALUE}) {
            Check.refuses(mill, "lineOf " + index, Check.INDEX, () -> mill.lineOf(index));
        }
        Check.refuses(mill, "lineOf 3", Check.UNSUPPORTED, () -> mill.lineOf(3));
        for (int line : new int[] {-1, 2, Integer.MIN_VALUE, Integer.MAX_VALUE}) {
            Check.refuses(mill, "firstOf " + line, Check.INDEX, () -> mill.firstOf(line));
            Check.refuses(mill, "widthOf " + line, Check.INDEX, () -> mill.widthOf(line));
            Check.refuses(mill, "badnessOf " + line, Check.INDEX, () -> mill.badnessOf(line));
        }
    }
}
