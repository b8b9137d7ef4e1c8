/** Promises 23 to 31, and what 'Demerits' says: a test for each sentence. */
public final class LinesTest extends Check {
    public static void main(String[] args) {
        badnessOfLastLine();
        badnessOfExactLine();
        badnessWithoutSpaces();
        badnessOfStretchedLine();
        badnessOfShrunkLine();
        demeritsOfLines();
        demeritsOfHyphens();
        leastDemerits();
        fewestLines();
        fewestLinesOfFewBreaks();
        endsEarlier();
        linesCounted();
        firstFit();
        firstCharacters();
        lineNumbers();
        widths();
        badnessNumbers();
        demeritsSummed();
        tryingIsTheSame();
        tryingMostBreaks("Promise 30: demeritsByTrying", demeritsByTrying(), 9 * 2501 + 8 * 3000 + 1, 1);
        tryingMostBreaks("Promise 31: linesByTrying", linesByTrying(), 10, 1);
        refusedWithoutLines("Promise 25: firstOf", Check::firstOf);
        refusedWithoutLines("Promise 27: widthOf", Check::widthOf);
        refusedWithoutLines("Promise 28: badnessOf", Check::badnessOf);
        refusedLines("Promise 25: firstOf", Check::firstOf);
        refusedLines("Promise 27: widthOf", Check::widthOf);
        refusedLines("Promise 28: badnessOf", Check::badnessOf);
        refusedWhereNotPossible("Promise 23: lines", lines());
        refusedWhereNotPossible("Promise 24: linesByFirstFit", linesByFirstFit());
        refusedWhereNotPossible("Promise 25: firstOf", firstOf(0));
        refusedWhereNotPossible("Promise 26: lineOf", lineOf(0));
        refusedWhereNotPossible("Promise 27: widthOf", widthOf(0));
        refusedWhereNotPossible("Promise 28: badnessOf", badnessOf(0));
        refusedWhereNotPossible("Promise 29: demerits", demerits());
        refusedWhereNotPossible("Promise 30: demeritsByTrying", demeritsByTrying());
        refusedWhereNotPossible("Promise 31: linesByTrying", linesByTrying());
        lineOfRefused();
        end();
    }

    /** The lines as they begin, their widths and their badness; the sum of demerits and the lines in both ways. */
    private static void dueLines(Mill mill, long sum, String firsts, String widths, String badness) {
        int count = firsts.split(" ").length;
        due(mill, lines(), count);
        due(mill, demerits(), sum);
        dueRow(mill, Check::firstOf, firsts);
        dueRow(mill, Check::widthOf, widths);
        dueRow(mill, Check::badnessOf, badness);
        if (mill.make().breaks() <= 9) {
            due(mill, linesByTrying(), count);
            due(mill, demeritsByTrying(), sum);
        }
    }

    /** Letters of the width 1 to 20 that are together as wide as this. */
    private static Mill word(Mill mill, int width) {
        Mill wider = mill.width('x', 20).type("x".repeat(width / 20));
        return width % 20 == 0 ? wider : wider.width('y', width % 20).type("y");
    }

    /** A first line with these spaces and this difference, and a last one with a word that fills it. */
    private static Mill firstLine(int letter, int spaces, int difference) {
        int natural = letter * (spaces + 1) + spaces;
        Mill mill = Mill.NEW.width('a', letter).width(' ', 1).line(natural + difference);
        return word(mill.type("a" + " a".repeat(spaces) + " "), natural + difference);
    }

    // ---- Demerits

    private static void badnessOfLastLine() {
        says("The badness of a line with the difference d and k spaces that are not dropped is as follows. For the last "
                + "line with d of 0 or more, it is 0.");
        dueLines(Mill.of("ab").line(10), 1, "0", "8", "0");
        dueLines(Mill.of("a b").line(200), 1, "0", "12", "0");
        dueLines(Mill.of("a b").line(13), 1, "0", "12", "0");
        dueLines(Mill.of("a b").line(12), 1, "0", "12", "0");
        dueLines(Mill.of("a b").line(11), 10201, "0", "12", "100");
        dueLines(Mill.of("-"), 1, "0", "4", "0");
        dueLines(Mill.of("aa bb").line(10), 100020002, "0 3", "8 8", "10000 0");
    }

    private static void badnessOfExactLine() {
        says("Otherwise, if d is 0, it is 0");
        dueLines(Mill.of("aaa bb").line(12), 2, "0 4", "12 8", "0 0");
        dueLines(Mill.of("a a bb").line(12), 2, "0 4", "12 8", "0 0");
        dueLines(Mill.of("aaa   [ }bb").line(12), 2, "0 9", "12 8", "0 0");
        dueLines(Mill.of("aa bb cc").line(20), 2, "0 6", "20 8", "0 0");
    }

    private static void badnessWithoutSpaces() {
        says("if k is 0, it is 10000");
        dueLines(Mill.of("aaa bbb").line(13), 100020002, "0 4", "12 12", "10000 0");
        dueLines(Mill.of("aaa bbb").line(26), 100020002, "0 4", "12 12", "10000 0");
        dueLines(Mill.of("aaa   bbb").line(13), 100020002, "0 6", "12 12", "10000 0");
        // a line of dropped spaces alone
        dueLines(Mill.of("   aaa").line(20), 100020002, "0 3", "0 12", "10000 0");
        dueLines(Mill.of("   aaa").line(21), 10201, "0", "24", "100");
        dueLines(Mill.of("[ } aa bb").line(10), 200040003, "1 4 7", "0 8 8", "10000 10000 0");
    }

    private static void dueBadness(Mill mill, int want) {
        due(mill, lines(), 2);
        due(mill, badnessOf(0), want);
        due(mill, badnessOf(1), 0);
        due(mill, demerits(), (1L + want) * (1L + want) + 1L);
    }

    private static void badnessOfStretchedLine() {
        says("if d is greater than 0, it is 100 times the cube of d, divided by the cube of 2 k and rounded down, but at "
                + "most 10000");
        dueBadness(firstLine(5, 1, 1), 12);
        dueBadness(firstLine(5, 1, 2), 100);
        dueBadness(firstLine(5, 1, 3), 337);
        dueBadness(firstLine(5, 1, 9), 9112);
        dueBadness(firstLine(5, 1, 10), 10000);
        dueBadness(firstLine(5, 1, 189), 10000);
        dueBadness(firstLine(5, 2, 1), 1);
        dueBadness(firstLine(5, 2, 3), 42);
        dueBadness(firstLine(5, 2, 4), 100);
        dueBadness(firstLine(5, 2, 5), 195);
        dueBadness(firstLine(5, 2, 18), 9112);
        dueBadness(firstLine(5, 2, 19), 10000);
        dueBadness(firstLine(5, 3, 1), 0);
        dueBadness(firstLine(5, 3, 2), 3);
        dueBadness(firstLine(5, 3, 27), 9112);
        dueBadness(firstLine(5, 3, 28), 10000);
        dueBadness(firstLine(1, 5, 46), 9733);
        dueBadness(firstLine(1, 5, 47), 10000);
        dueBadness(firstLine(1, 14, 1), 0);
        dueBadness(firstLine(1, 14, 28), 100);
        dueBadness(firstLine(1, 14, 129), 9779);
        dueBadness(firstLine(1, 14, 130), 10000);
    }

    private static void badnessOfShrunkLine() {
        says("if d is less than 0, it is 100 times the cube of -d, divided by the cube of k and rounded down.");
        int[][] all = {{1, -1, 100}, {2, -1, 12}, {2, -2, 100}, {3, -1, 3}, {3, -2, 29}, {3, -3, 100}, {4, -1, 1},
            {4, -3, 42}, {4, -4, 100}, {5, -1, 0}, {5, -2, 6}, {5, -4, 51}, {5, -5, 100}, {7, -6, 62}, {7, -7, 100}};
        for (int[] one : all) {
            // as the first of two lines, and as the last one
            dueBadness(firstLine(8, one[0], one[1]), one[2]);
            int natural = 2 * one[0] + 20;
            Mill narrow = Mill.NEW.width('a', 1).width(' ', 1).width('z', 20).line(natural + one[1]);
            dueLines(narrow.type("a ".repeat(one[0]) + "z"), (1L + one[2]) * (1L + one[2]), "0", "" + natural, "" + one[2]);
        }
    }

    private static void demeritsOfLines() {
        says("The demerits of a line are the square of 1 plus its badness");
        due(Mill.of("a"), demerits(), 1);
        due(Mill.of("aa bb").line(19), demerits(), 10201);
        due(firstLine(5, 1, 9), demerits(), 9113L * 9113L + 1);
        due(firstLine(5, 1, 10), demerits(), 100020002);
        // more than an int holds
        due(Mill.of("a ".repeat(25)).line(10).width('a', 9), demerits(), 24L * 100020001L + 1);
        due(Mill.of("-".repeat(50)).line(10).width('-', 6), demerits(), 49L * 100020001L + 49 * 2500 + 48 * 3000 + 1);
    }

    private static void demeritsOfHyphens() {
        says("2500 is added if the line is not the last one and its last character that is not a mark is '-', and 3000 "
                + "more if the line before it ends so, too.");
        Mill mill = Mill.NEW.line(10).width('-', 2);
        dueLines(mill.type("aa-bb"), 2502, "0 3", "10 8", "0 0");
        dueLines(mill.type("aa-"), 1, "0", "10", "0");
        dueLines(mill.type("aa-bb-"), 2502, "0 3", "10 10", "0 0");
        dueLines(mill.type("aa-bb-cc"), 8003, "0 3 6", "10 10 8", "0 0 0");
        dueLines(mill.type("aa-bb-cc-"), 8003, "0 3 6", "10 10 10", "0 0 0");
        dueLines(mill.type("aa-bb-cc-dd"), 13504, "0 3 6 9", "10 10 10 8", "0 0 0 0");
        // marks behind it, and spaces behind it
        dueLines(mill.type("aa-[{}}bb"), 2502, "0 7", "10 8", "0 0");
        dueLines(mill.type("aa- bb"), 2, "0 4", "10 8", "0 0");
        dueLines(mill.type("aa- [}bb"), 2, "0 6", "10 8", "0 0");
        dueLines(mill.type("aa-[ }bb"), 2, "0 6", "10 8", "0 0");
        // only one of two lines that follow each other ends so
        Mill wide = mill.width('c', 6);
        dueLines(wide.type("aa-bc aa-bb"), 5004, "0 3 6 9", "10 10 10 8", "0 0 0 0");
        dueLines(wide.type("bc aa-bb"), 2503, "0 3 6", "10 10 8", "0 0 0");
        dueLines(wide.type("aa- aa-bb"), 2503, "0 4 7", "10 10 8", "0 0 0");
        dueLines(wide.type("aa-[}aa-bb"), 8003, "0 5 8", "10 10 8", "0 0 0");
        dueLines(wide.type("aa-aa- bb"), 2503, "0 3 7", "10 10 8", "0 0 0");
        // a line of spaces alone does not end so, and it stands before the one that does
        dueLines(mill.width(' ', 6).type(" aa-bb"), 100020001L + 2501 + 1, "0 1 4", "0 10 8", "10000 0 0");
        // a hyphen inside a line adds nothing
        dueLines(Mill.of("a-b-c"), 1, "0", "20", "0");
    }

    private static void leastDemerits() {
        says("The lines of a text are those possible lines with the least sum of demerits");
        // a first line "a a a" would fit exactly, but leave "b" alone on a line with a badness of 10000
        dueLines(Mill.of("a a a b ccccc").line(20), 81945603, "0 4 8", "12 12 20", "6400 6400 0");
        due(Mill.of("a a a b ccccc").line(20), linesByFirstFit(), 3);
        // two lines with 58 * 58 + 1 in place of one with 101 * 101
        dueLines(Mill.of("a a a a a").line(40).width('a', 8).width(' ', 1), 3365, "0 8", "35 8", "57 0");
        // five lines in place of four, found behind them and ahead of them
        Mill hyphens = Mill.NEW.width('a', 1).width('b', 2).width('c', 3).width('-', 5);
        dueLines(hyphens.width(' ', 3).line(15).type("c c-b d-c a d-c-"), 100041041, "0 4 8 10 14",
                "14 14 3 13 8", "12 12 10000 100 0");
        dueLines(hyphens.width(' ', 2).line(10).type("a a-b a-b a b-b-"), 100030673, "0 4 8 10 14",
                "9 10 2 10 7", "12 0 10000 0 0");
        // shrunk into a line, where the next place would leave it alone
        dueLines(Mill.of("aa bb").line(19), 10201, "0", "20", "100");
        dueLines(Mill.of("aa bb ccccc").line(20), 2, "0 6", "20 20", "0 0");
        // 100 for the last line shrunk by 1 of 1 in place of 10000 for a line without spaces
        dueLines(Mill.of("aaaa bb cc").line(19), 100030202L, "0 5", "16 20", "10000 100");
    }

    private static void fewestLines() {
        says("of several, those with the fewest lines");
        // 49 + 4 with two lines, 36 + 16 + 1 with three
        Mill mill = Mill.of("b a b a b c a c c a b").line(15).width('a', 1).width('b', 2).width(' ', 1);
        dueLines(mill, 53, "0 12", "17 16", "6 1");
        due(mill, linesByTrying(), UNSUPPORTED);
        // seven lines that are found behind eight of the same sum
        dueLines(Mill.of("c-a b c-a-a-b-c-a a c a-c-c-c a-a-").line(15).width('a', 1).width('b', 2).width('c', 3)
                .width(' ', 2).width('-', 5), 400110907, "0 6 10 14 22 26 30",
                "13 14 13 17 14 11 12", "100 10000 10000 100 10000 10000 0");
    }

    /** The same where both ways of finding the lines are asked: few break places, and found by a search, too. */
    private static void fewestLinesOfFewBreaks() {
        says("of several, those with the fewest lines (promise 31: linesByTrying returns the same as lines)");
        // 49 + 4 with two lines, 36 + 16 + 1 with three
        Mill six = Mill.of("a    a b c c    c   b").line(27).width('a', 6).width('b', 2).width('c', 1).width(' ', 3);
        due(six, breaks(), 6);
        dueLines(six, 53, "0 9", "29 29", "6 1");
        // 25 + 1 with two lines, 9 + 16 + 1 with three
        Mill eight = Mill.of("a b    c    d  e a f f c").line(37).width('b', 6).width('c', 3).width('d', 1).width('e', 5)
                .width('f', 10).width(' ', 2);
        due(eight, breaks(), 8);
        dueLines(eight, 26, "0 17", "41 33", "4 0");
        // 16 + 1 + 1 with three lines, 4 + 9 + 4 + 1 with four
        Mill nine = Mill.of("a a b b b    c a d d e").line(14).width('a', 5).width('b', 1).width('d', 3).width('e', 2)
                .width(' ', 1);
        due(nine, breaks(), 9);
        dueLines(nine, 18, "0 8 17", "15 15 10", "3 0 0");
        // 49 + 4 with two lines, 36 + 16 + 1 with three, and hyphens inside them
        Mill hyphens = Mill.of("a a   b a a a-c-c c  a").line(22).width('a', 2).width('b', 3).width('c', 1).width('-', 1)
                .width(' ', 3);
        due(hyphens, breaks(), 9);
        dueLines(hyphens, 53, "0 10", "24 23", "6 1");
    }

    private static void endsEarlier() {
        says("of several, those where the first line that differs ends earlier.");
        dueLines(Mill.of("a a a aaa").line(10).width('a', 3), 100020003, "0 2 6", "3 10 9", "10000 0 0");
        // in three ways
        dueLines(Mill.of("a a a a a aaa").line(10).width('a', 3), 100020004, "0 2 6 10", "3 10 10 9", "10000 0 0 0");
        dueLines(Mill.of("b c a b c d").line(10).width(' ', 1).width('a', 1).width('c', 5).width('d', 10), 10203,
                "0 4 10", "10 12 10", "0 100 0");
        // the first line that differs, though a later one ends later
        dueLines(Mill.of("a b c b a d").line(40).width('a', 2).width('b', 8).width('c', 7).width('d', 14)
                .width(' ', 12), 100020171, "0 4 10", "22 41 14", "10000 12 0");
        dueLines(Mill.of("d b c e f e b").line(22).width('d', 14).width('b', 3).width('e', 5).width('f', 13)
                .width(' ', 2), 100144447, "0 2 8 12", "14 16 20 3", "10000 337 100 0");
        // two such places one behind the other
        dueLines(Mill.of("aaa a a a aaa a a a aaa").line(10).width('a', 3), 400080007, "0 4 6 10 14 16 20",
                "9 3 10 9 3 10 9", "10000 10000 0 10000 10000 0 0");
    }

    // ---- promises 23 to 31

    private static void linesCounted() {
        says("Promise 23: lines returns the number of lines.");
        due(Mill.NEW, lines(), 0);
        due(Mill.of("  [ "), lines(), 0);
        due(Mill.of("a"), lines(), 1);
        due(Mill.of("aa bb").line(10), lines(), 2);
        Mill most = Mill.of("-".repeat(50)).line(10).width('-', 10);
        due(most, lines(), 50);
        due(most, firstOf(49), 49);
        due(most, firstOf(50), INDEX);
        due(most, lineOf(49), 49);
        due(most, widthOf(49), 10);
        due(most, badnessOf(49), 0);
        due(most, demerits(), 49 * 2501 + 48 * 3000 + 1);
        due(most.width('-', 1), lines(), 5);
        due(most.width('-', 1), demerits(), 4 * 2501 + 3 * 3000 + 1);
        due(most.width('-', 11), lines(), STATE);
        due(most.cut(49), lines(), 1);
        due(most.cut(50), lines(), 0);
    }

    private static void firstFit() {
        says("Promise 24: linesByFirstFit returns the number of lines if each line, from the first one on, took as many of these parts "
                + "as it can without a natural width greater than the line width.");
        due(Mill.of("aa bb").line(20), linesByFirstFit(), 1);
        due(Mill.of("aa bb").line(19), linesByFirstFit(), 2);
        due(Mill.of("aa bb").line(19), lines(), 1);
        // without the dropped spaces
        due(Mill.of("aa bb     cc").line(20), linesByFirstFit(), 2);
        due(Mill.of("aa bb   ").line(20), linesByFirstFit(), 1);
        due(Mill.of("a a a a a a a").line(20), linesByFirstFit(), 3);
        due(Mill.of("a a a a a a").line(20), linesByFirstFit(), 2);
        due(Mill.of("a-b-c-").line(10), linesByFirstFit(), 3);
        due(Mill.of("a-b-c-").line(16), linesByFirstFit(), 2);
        due(Mill.of("a b c d e f g h i j k l").line(200), linesByFirstFit(), 1);
        // spaces ahead of the first word are a part, too
        due(Mill.of("  a").line(12), linesByFirstFit(), 1);
        due(Mill.of("  a").line(11), linesByFirstFit(), 2);
        due(Mill.of("  a b").line(11), linesByFirstFit(), 3);
        due(Mill.of("  a b").line(12), linesByFirstFit(), 2);
        // one, none, and the most
        due(Mill.of("a"), linesByFirstFit(), 1);
        due(Mill.of("a "), linesByFirstFit(), 1);
        due(Mill.NEW, linesByFirstFit(), 0);
        due(Mill.of("  "), linesByFirstFit(), 0);
        due(Mill.of("-".repeat(50)).line(10).width('-', 10), linesByFirstFit(), 50);
        due(Mill.of("-".repeat(50)).line(10).width('-', 5), linesByFirstFit(), 25);
        due(Mill.of("-".repeat(50)).line(10).width('-', 6), linesByFirstFit(), 50);
        due(Mill.of("-".repeat(50)).line(50).width('-', 1), linesByFirstFit(), 1);
        due(Mill.of("-".repeat(50)).line(49).width('-', 1), linesByFirstFit(), 2);
        // it does not leave room for the demerits' sake
        due(Mill.of("a a a aaa").line(10).width('a', 3), linesByFirstFit(), 3);
    }

    private static void firstCharacters() {
        says("Promise 25: firstOf returns the index of its first character that is not a mark.");
        dueRow(Mill.of("a"), Check::firstOf, "0");
        dueRow(Mill.of("[{a"), Check::firstOf, "2");
        dueRow(Mill.of("[{}} a").line(10), Check::firstOf, "4");
        dueRow(Mill.of("{aa [{bb}} cc").line(10), Check::firstOf, "1 6 11");
        dueRow(Mill.of("aa[ }{bb").line(10), Check::firstOf, "0 6");
        dueRow(Mill.of("{fi fi").line(10).rule('f', 'i', 10), Check::firstOf, "1 4");
    }

    private static void lineNumbers() {
        says("Promise 26: lineOf returns the line of a character, which can be a dropped space.");
        dueEach(Mill.of("aa   [bb}  "), Check::lineOf, "0 0 0 0 0 m 0 0 m 0 0");
        dueEach(Mill.of("aa   [bb}  ").line(10), Check::lineOf, "0 0 0 0 0 m 1 1 m 1 1");
        dueEach(Mill.of(" aa").line(10), Check::lineOf, "0 1 1");
        dueEach(Mill.of("ab-cd").line(12), Check::lineOf, "0 0 0 1 1");
        dueEach(Mill.of("fi fi").line(10).rule('f', 'i', 10), Check::lineOf, "0 0 0 1 1");
    }

    private static void widths() {
        says("Promise 27: widthOf returns the natural width of a line.");
        dueRow(Mill.of("a b  "), Check::widthOf, "12");
        dueRow(Mill.of(" aa-b").line(12), Check::widthOf, "0 12 4");
        dueRow(Mill.of("a".repeat(50)).line(200), Check::widthOf, "200");
        dueRow(Mill.of("a b c").line(18), Check::widthOf, "20");
    }

    private static void badnessNumbers() {
        says("Promise 28: badnessOf returns the badness of a line.");
        dueRow(Mill.of("a a aaaa").line(20), Check::badnessOf, "6400 0");
        dueRow(Mill.of("a b c ddddd").line(27), Check::badnessOf, "535 0");
        dueRow(Mill.of("a b c d eeee").line(25), Check::badnessOf, "100 0");
        dueRow(Mill.of("a b c d").line(26), Check::badnessOf, "29");
        // that of a line is without what hyphens add
        dueRow(Mill.of("aa-bb").line(12), Check::badnessOf, "0 0");
    }

    private static void demeritsSummed() {
        says("Promise 29: demerits returns the sum, or 0 if there are no lines.");
        due(Mill.NEW, demerits(), 0);
        due(Mill.of(" [ "), demerits(), 0);
        due(Mill.of("a"), demerits(), 1);
        due(Mill.of("a").cut(1), demerits(), 0);
        due(Mill.of("aaa bbb ccc").line(12), demerits(), 3);
        due(Mill.of("aa bb cc").line(10), demerits(), 200040003);
    }

    private static void tryingIsTheSame() {
        says("Promise 30: demeritsByTrying returns the same as demerits. Returns the sum, or 0 if there are no lines.");
        for (String text : new String[] {"", " ", "[", "  "}) {
            due(Mill.of(text), demeritsByTrying(), 0);
        }
        due(Mill.of("a"), demeritsByTrying(), 1);
        due(Mill.of("aa bb").line(19), demeritsByTrying(), 10201);
        due(Mill.of("aa bb").line(18), demeritsByTrying(), 100020002);
        due(Mill.of("a-b-c-").line(10).width('-', 6), demeritsByTrying(), 2501 + 5501 + 1);
        due(Mill.of("  aa").line(10), demeritsByTrying(), 100020002);
        due(Mill.of(" a").then(linesByTrying(), demeritsByTrying()).cut(1), demeritsByTrying(), 0);
        says("Promise 31: linesByTrying returns the same as lines.");
        for (String text : new String[] {"", " ", "[", "  "}) {
            due(Mill.of(text), linesByTrying(), 0);
        }
        due(Mill.of("a"), linesByTrying(), 1);
        due(Mill.of("aa bb").line(19), linesByTrying(), 1);
        due(Mill.of("aa bb").line(18), linesByTrying(), 2);
        due(Mill.of("a-b-c-").line(10).width('-', 6), linesByTrying(), 3);
        due(Mill.of("  aa").line(10), linesByTrying(), 2);
        due(Mill.of(" a").then(linesByTrying(), demeritsByTrying()).cut(1), linesByTrying(), 0);
    }

    private static void tryingMostBreaks(String promise, Ask ask, Object ofTenLines, Object ofOneLine) {
        says(promise + " throws `UnsupportedOperationException` if there are more than 9 break places");
        Mill nine = Mill.of("-".repeat(10)).line(10).width('-', 10);
        due(nine, breaks(), 9);
        due(nine, ask, ofTenLines);
        due(nine.line(100), ask, ofOneLine);
        due(Mill.of("a a a a a a a a a a").line(200), ask, ofOneLine);
        due(Mill.of(" a a a a a a a a a ").line(200), ask, ofOneLine);
        refused(nine.type("a"), ask, UNSUPPORTED);
        due(nine.type("a").cut(1), ask, ofTenLines);
        for (String text : new String[] {"a a a a a a a a a a a", " a a a a a a a a a a", "-".repeat(50)}) {
            refused(Mill.of(text).line(200), ask, UNSUPPORTED);
        }
    }

    private static void refusedWithoutLines(String promise, OfIndex question) {
        says(promise + " throws `IndexOutOfBoundsException` if there is no such line: a text without lines has none");
        for (String text : new String[] {"", "   ", "[", "[ } "}) {
            for (int line : new int[] {0, 1, -1, LEAST, MOST}) {
                refused(Mill.of(text), question.of(line), INDEX);
            }
        }
    }

    private static void refusedLines(String promise, OfIndex question) {
        says(promise + " throws `IndexOutOfBoundsException` if there is no such line");
        Mill mill = Mill.of("aa {bb}").line(10);
        for (int line : new int[] {-1, 2, 3, 49, LEAST, MOST}) {
            refused(mill, question.of(line), INDEX);
        }
        refused(Mill.of("a"), question.of(1), INDEX);
        refused(Mill.of("a"), question.of(-1), INDEX);
        refused(mill.cut(3), question.of(1), INDEX);
        refused(Mill.of("-".repeat(50)).line(10).width('-', 10), question.of(50), INDEX);
        dueRow(mill, question, answer(mill.make(), question.of(0)) + " " + answer(mill.make(), question.of(1)));
    }

    private static void refusedWhereNotPossible(String promise, Ask ask) {
        says(promise + " throws `IllegalStateException` if lines are not possible");
        for (Mill mill : new Mill[] {Mill.of("aaa").line(11), Mill.of("aa [aaa").line(11), Mill.of("aaa aa").line(11)}) {
            refused(mill, ask, STATE);
            due("lines of a width that fits", false, () -> answer(mill.line(12).make(), ask).equals(STATE));
        }
    }

    private static void lineOfRefused() {
        says("Promise 26: lineOf throws `IndexOutOfBoundsException` if there is no such index");
        for (int index : new int[] {-1, 7, 8, 50, LEAST, MOST}) {
            refused(Mill.of("aa {bb}").line(10), lineOf(index), INDEX);
            refused(Mill.NEW, lineOf(index), INDEX);
        }
        refused(Mill.NEW, lineOf(0), INDEX);
        says("Promise 26: lineOf throws `UnsupportedOperationException` if it is a mark");
        refused(Mill.of("aa {bb}").line(10), lineOf(3), UNSUPPORTED);
        refused(Mill.of("aa {bb}").line(10), lineOf(6), UNSUPPORTED);
        says("Promise 26: lineOf throws `NoSuchElementException` if there are no lines");
        refused(Mill.of("  "), lineOf(0), NO_ELEMENT);
        refused(Mill.of("[ } "), lineOf(3), NO_ELEMENT);
        refused(Mill.of("a ").cut(2).type(" "), lineOf(0), NO_ELEMENT);
        refused(Mill.of(" ".repeat(50)).line(10).width(' ', 20), lineOf(49), NO_ELEMENT);
        due(Mill.of(" ".repeat(49) + "a"), lineOf(48), 0);
    }
}
