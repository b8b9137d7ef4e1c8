/** Promises 32 to 37, and what 'Visual order' and 'Justification' say: a test for each sentence. */
public final class OrderTest extends Check {
    public static void main(String[] args) {
        reversing();
        reversingDeepLevels();
        reversingInEachLine();
        reversingGlyphs();
        ranksCounted();
        secondWay();
        justifiedLines();
        linesNotJustified();
        dividedDifference();
        firstOnesFromTheLeft();
        beginningOfJustified();
        beginningOfOthers();
        places();
        glyphsOfLine();
        glyphsByRank();
        ranks();
        justifiedWidths();
        refusedLines("Promise 32: glyphsOf", Check::glyphsOf);
        refusedLines("Promise 33: glyphAt", line -> glyphAt(line, 0));
        refusedLines("Promise 33: glyphAt (rank 1)", line -> glyphAt(line, 1));
        refusedRanks();
        refusedWhereNotPossible("Promise 32: glyphsOf", glyphsOf(0), 3);
        refusedWhereNotPossible("Promise 33: glyphAt", glyphAt(0, 1), 1);
        refusedWhereNotPossible("Promise 34: rankOf", rankOf(1), 1);
        refusedWhereNotPossible("Promise 35: rankByCounting", rankByCounting(1), 1);
        refusedWhereNotPossible("Promise 36: placeOf", placeOf(1), 4);
        refusedWhereNotPossible("Promise 37: justifiedWidth", justifiedWidth(1), 4);
        refusedIndices("Promise 34: rankOf", Check::rankOf);
        refusedIndices("Promise 35: rankByCounting", Check::rankByCounting);
        refusedIndices("Promise 36: placeOf", Check::placeOf);
        refusedIndices("Promise 37: justifiedWidth", Check::justifiedWidth);
        refusedMarks("Promise 34: rankOf", Check::rankOf);
        refusedMarks("Promise 35: rankByCounting", Check::rankByCounting);
        refusedMarks("Promise 36: placeOf", Check::placeOf);
        refusedMarks("Promise 37: justifiedWidth", Check::justifiedWidth);
        refusedDroppedSpaces("Promise 34: rankOf", Check::rankOf);
        refusedDroppedSpaces("Promise 35: rankByCounting", Check::rankByCounting);
        refusedDroppedSpaces("Promise 36: placeOf", Check::placeOf);
        refusedDroppedSpaces("Promise 37: justifiedWidth", Check::justifiedWidth);
        refusedWithoutLines("Promise 34: rankOf", Check::rankOf);
        refusedWithoutLines("Promise 35: rankByCounting", Check::rankByCounting);
        refusedWithoutLines("Promise 36: placeOf", Check::placeOf);
        refusedWithoutLines("Promise 37: justifiedWidth", Check::justifiedWidth);
        end();
    }

    private static void dueRanks(Mill mill, String want) {
        dueEach(mill, Check::rankOf, want);
        dueEach(mill, Check::rankByCounting, want);
    }

    /** The glyphs of a line from left to right, by their first characters. */
    private static void dueOrder(Mill mill, int line, String want) {
        due(mill, glyphsOf(line), want.isEmpty() ? 0 : want.split(" ").length);
        dueRow(mill, rank -> glyphAt(line, rank), want);
    }

    private static void duePlaces(Mill mill, String places, String widths) {
        dueEach(mill, Check::placeOf, places);
        dueEach(mill, Check::justifiedWidth, widths);
    }

    private static String down(int from) {
        StringBuilder all = new StringBuilder().append(from);
        for (int i = from - 1; i >= 0; i--) {
            all.append(' ').append(i);
        }
        return all.toString();
    }

    // ---- Visual order

    private static void reversing() {
        says("In each line, its glyphs without dropped spaces are put into visual order: from the highest level of them "
                + "down to 1, each maximal sequence of glyphs in the line that have this level or a higher one is "
                + "reversed.");
        // the level 0 alone, 1 alone, and 2 alone, which is reversed twice
        dueRanks(Mill.of("abc"), "0 1 2");
        dueRanks(Mill.of("ABC"), "2 1 0");
        dueRanks(Mill.right("abc"), "0 1 2");
        dueRanks(Mill.of("[abc"), "m 0 1 2");
        dueRanks(Mill.of("[ABC"), "m 2 1 0");
        dueRanks(Mill.of("a"), "0");
        dueRanks(Mill.of("A"), "0");
        // sequences at the beginning, in the middle and at the end of a line
        dueRanks(Mill.of("ABcDEfGH"), "1 0 2 4 3 5 7 6");
        dueRanks(Mill.of("aBCd"), "0 2 1 3");
        dueRanks(Mill.right("abCdeFgh"), "6 7 5 3 4 2 0 1");
        dueRanks(Mill.of("a AB 12"), "0 1 6 5 4 2 3");
        dueRanks(Mill.right("a AB 12"), "6 5 4 3 2 0 1");
        dueOrder(Mill.of("a AB 12"), 0, "0 1 5 6 4 3 2");
        dueOrder(Mill.right("a AB 12"), 0, "5 6 4 3 2 1 0");
        dueRanks(Mill.of("A".repeat(50)).line(200), down(49));
    }

    private static void reversingDeepLevels() {
        says("From the highest level of them down to 1: levels that are high, and levels that no glyph has.");
        Mill deep = Mill.of("a{B[c{DE}fg}H}i");
        dueEach(deep, Check::levelOf, "0 m 1 m 2 m 3 3 m 2 2 m 1 m 0");
        dueOrder(deep, 0, "0 12 4 7 6 9 10 2 14");
        dueRanks(deep, "0 m 7 m 2 m 4 3 m 5 6 m 1 m 8");
        dueRanks(Mill.of("a[bc}d"), "0 m 1 2 m 3");
        dueRanks(Mill.right("A{[bc}}D"), "3 m m 1 2 m m 0");
        dueRanks(Mill.of("a[{BC}}d"), "0 m m 2 1 m m 3");
        dueRanks(Mill.right("{{{{{AB12"), "m m m m m 3 2 0 1");
        dueRanks(Mill.right("A{{{{{AB12}}}}}BC"), "6 m m m m m 5 4 2 3 m m m m m 1 0");
        dueRanks(Mill.of("[[[[[aA12"), "m m m m m 0 3 1 2");
    }

    private static void reversingInEachLine() {
        says("In each line, its glyphs without dropped spaces are put into visual order: each line alone.");
        Mill mill = Mill.of("AB cd EF gh").line(20);
        dueRanks(mill, "1 0 2 3 4 - 1 0 2 3 4");
        dueOrder(mill, 0, "1 0 2 3 4");
        dueOrder(mill, 1, "7 6 8 9 10");
        dueRanks(Mill.of("AB CD EF GH").line(20), "4 3 2 1 0 - 4 3 2 1 0");
        dueRanks(Mill.right("AB  ").line(20), "1 0 - -");
        dueRanks(Mill.right("AB  C").line(20), "4 3 2 1 0");
        dueRanks(Mill.right("AB  C").line(10), "1 0 - - 0");
        dueRanks(Mill.right("  AB  ").line(20), "3 2 1 0 - -");
    }

    private static void reversingGlyphs() {
        says("Its glyphs are put into visual order: a ligature is one of them.");
        Mill mill = Mill.of("xABfi").rule('A', 'B', 30).rule('f', 'i', 5);
        dueRanks(mill, "0 1 1 2 2");
        dueOrder(mill, 0, "0 1 3");
        duePlaces(mill, "0 4 4 34 34", "4 30 30 5 5");
        dueRanks(mill.base(true), "2 1 1 0 0");
        dueOrder(mill.base(true), 0, "3 1 0");
        duePlaces(mill.base(true), "56 26 26 21 21", "4 30 30 5 5");
    }

    private static void ranksCounted() {
        says("The rank of a glyph is its position from the left, counted from 0.");
        dueRanks(Mill.of("a"), "0");
        dueRanks(Mill.of("ab").line(10), "0 1");
        dueRanks(Mill.of("aa bb").line(10), "0 1 - 0 1");
        dueRanks(Mill.right("AA BB").line(10), "1 0 - 1 0");
        due(Mill.of("a".repeat(50)).line(200), rankOf(49), 49);
        due(Mill.of("A".repeat(50)).line(200), rankOf(49), 0);
        due(Mill.of("A".repeat(50)).line(200), rankByCounting(0), 49);
    }

    private static void secondWay() {
        says("In a second way, a glyph stands to the left of one that comes later in the text if and only if the lowest "
                + "level of these two and of all glyphs between them in the text is even.");
        // the lowest one stands first, last, and between them; it is 0, odd, and even again
        dueEach(Mill.of("aB"), Check::rankByCounting, "0 1");
        dueEach(Mill.of("Ab"), Check::rankByCounting, "0 1");
        dueEach(Mill.of("BaB"), Check::rankByCounting, "0 1 2");
        dueEach(Mill.right("aBa"), Check::rankByCounting, "2 1 0");
        dueEach(Mill.right("aab"), Check::rankByCounting, "0 1 2");
        dueEach(Mill.of("{a[Bc}D}"), Check::rankByCounting, "m 1 m 2 3 m 0 m");
        // a dropped space between them and behind them does not count
        dueEach(Mill.of("aa BB ").line(10), Check::rankByCounting, "0 1 - 1 0 -");
    }

    // ---- Justification

    private static void justifiedLines() {
        says("A line is justified if it has spaces that are not dropped and its difference is less than 0, or if it has "
                + "such spaces and is not the last line.");
        // the last line with the differences -1, 0 and 1
        duePlaces(Mill.right("AA BB").line(19), "15 11 8 4 0", "4 4 3 4 4");
        duePlaces(Mill.right("AA BB").line(20), "16 12 8 4 0", "4 4 4 4 4");
        duePlaces(Mill.right("AA BB").line(21), "17 13 9 5 1", "4 4 4 4 4");
        duePlaces(Mill.of("aa bb").line(19), "0 4 8 11 15", "4 4 3 4 4");
        duePlaces(Mill.of("aa bb").line(21), "0 4 8 12 16", "4 4 4 4 4");
        // one that is not the last one, with the differences -1, 0 and 1
        duePlaces(Mill.right("A A BBBB").line(11).width('B', 2), "7 4 0 - 9 7 5 3", "4 3 4 - 2 2 2 2");
        duePlaces(Mill.right("A A BBBB").line(12).width('B', 3), "8 4 0 - 9 6 3 0", "4 4 4 - 3 3 3 3");
        duePlaces(Mill.right("A A BBBB").line(13).width('B', 3), "9 4 0 - 10 7 4 1", "4 5 4 - 3 3 3 3");
    }

    private static void linesNotJustified() {
        says("A line is justified if it has spaces that are not dropped: one without them is not.");
        duePlaces(Mill.of("aaa-bbb").line(20), "0 4 8 12 0 4 8", "4 4 4 4 4 4 4");
        duePlaces(Mill.right("AAA-BBB").line(20), "16 12 8 4 16 12 8", "4 4 4 4 4 4 4");
        duePlaces(Mill.right("AAAA BBBBB").line(20), "16 12 8 4 - 16 12 8 4 0", "4 4 4 4 - 4 4 4 4 4");
        duePlaces(Mill.of("aaaa  [ }bbbbb").line(20), "0 4 8 12 - - m - m 0 4 8 12 16", "4 4 4 4 - - m - m 4 4 4 4 4");
        duePlaces(Mill.right(" [ }AA").line(10), "- m - m 6 2", "- m - m 4 4");
        // the only line is the last one
        duePlaces(Mill.of("a b").line(200), "0 4 8", "4 4 4");
        duePlaces(Mill.right("A B").line(200), "196 192 188", "4 4 4");
    }

    private static void dividedDifference() {
        says("Then the difference is divided among its k spaces: each of them becomes wider, or narrower, by the size of "
                + "the difference divided by k and rounded down");
        duePlaces(Mill.of("a a aaaa").line(20), "0 4 16 - 0 4 8 12", "4 12 4 - 4 4 4 4");
        duePlaces(Mill.right("A A AAAA").line(20), "16 4 0 - 16 12 8 4", "4 12 4 - 4 4 4 4");
        duePlaces(Mill.of("a b c ddddd").line(24), "0 4 10 14 20 - 0 4 8 12 16", "4 6 4 6 4 - 4 4 4 4 4");
        duePlaces(Mill.of("a b c").line(18), "0 4 7 11 14", "4 3 4 3 4");
        duePlaces(Mill.of("a b c d eeee").line(25), "0 4 7 11 14 18 21 - 0 4 8 12", "4 3 4 3 4 3 4 - 4 4 4 4");
        duePlaces(Mill.of(" a aa").line(10), "0 6 - 0 4", "6 4 - 4 4");
        // down to nothing, and as wide as can be
        duePlaces(Mill.of("aa bb").line(16).width(' ', 1), "0 4 8 8 12", "4 4 0 4 4");
        duePlaces(Mill.of("a a " + "b".repeat(10)).line(200).width('a', 1).width('b', 20),
                "0 1 199 - 0 20 40 60 80 100 120 140 160 180", "1 198 1 - 20 20 20 20 20 20 20 20 20 20");
    }

    private static void firstOnesFromTheLeft() {
        says("and as many of them as the remainder is, the first ones from the left, by 1 more.");
        // a remainder of 1 of 2: stretched, and shrunk
        duePlaces(Mill.of("a b c ddddd").line(23), "0 4 10 14 19 - 0 4 8 12 16", "4 6 4 5 4 - 4 4 4 4 4");
        duePlaces(Mill.right("A B C DDDDD").line(23), "19 14 10 4 0 - 19 15 11 7 3", "4 5 4 6 4 - 4 4 4 4 4");
        duePlaces(Mill.of("a b c").line(19), "0 4 7 11 15", "4 3 4 4 4");
        duePlaces(Mill.right("A B C").line(19), "15 11 7 4 0", "4 4 4 3 4");
        // left words in a right line keep their order, and so do the spaces between them
        duePlaces(Mill.right("a b c ddddd").line(23), "0 4 10 14 19 - 3 7 11 15 19", "4 6 4 5 4 - 4 4 4 4 4");
        duePlaces(Mill.of("A B C DDDDD").line(23), "19 14 10 4 0 - 16 12 8 4 0", "4 5 4 6 4 - 4 4 4 4 4");
        // 2 of 3, and 1 of 3
        duePlaces(Mill.of("a  b c " + "d".repeat(8)).line(35), "0 4 12 20 24 31 - 0 4 8 12 16 20 24 28",
                "4 8 8 4 7 4 - 4 4 4 4 4 4 4 4");
        duePlaces(Mill.of("a  b c " + "d".repeat(8)).line(34), "0 4 12 19 23 30 - 0 4 8 12 16 20 24 28",
                "4 8 7 4 7 4 - 4 4 4 4 4 4 4 4");
        duePlaces(Mill.of("a b c d").line(26), "0 4 7 11 14 18 22", "4 3 4 3 4 4 4");
        duePlaces(Mill.of("a b c d").line(27), "0 4 7 11 15 19 23", "4 3 4 4 4 4 4");
        duePlaces(Mill.right("A B C D").line(26), "22 18 14 11 7 4 0", "4 4 4 3 4 3 4");
        // a difference that is smaller than the number of spaces
        duePlaces(Mill.of("a b c ddddd").line(21).width('d', 4), "0 4 9 13 17 - 0 4 8 12 16", "4 5 4 4 4 - 4 4 4 4 4");
        // visual order goes through the levels of the spaces
        duePlaces(Mill.of("a B C D e fffffffff").line(38), "0 4 26 22 18 13 9 30 34 - 0 4 8 12 16 20 24 28 32",
                "4 5 4 4 4 5 4 4 4 - 4 4 4 4 4 4 4 4 4");
    }

    private static void beginningOfJustified() {
        says("A justified line begins at the place 0.");
        duePlaces(Mill.right("A B CCCC").line(20), "16 4 0 - 16 12 8 4", "4 12 4 - 4 4 4 4");
        duePlaces(Mill.right("A B").line(11), "7 4 0", "4 3 4");
        duePlaces(Mill.of("a b cccc").line(20), "0 4 16 - 0 4 8 12", "4 12 4 - 4 4 4 4");
    }

    private static void beginningOfOthers() {
        says("A line that is not justified begins at 0 if the base level is 0, and at its difference if the base level "
                + "is 1.");
        duePlaces(Mill.of("AB"), "4 0", "4 4");
        duePlaces(Mill.right("AB"), "56 52", "4 4");
        duePlaces(Mill.right("ab"), "52 56", "4 4");
        duePlaces(Mill.of("{AB}"), "m 4 0 m", "m 4 4 m");
        duePlaces(Mill.right("[ab}"), "m 52 56 m", "m 4 4 m");
        duePlaces(Mill.right("AA").line(10), "6 2", "4 4");
        // the difference 0
        duePlaces(Mill.right("aA").line(13).width('A', 9), "9 0", "4 9");
        duePlaces(Mill.right("A   B").line(20), "16 12 8 4 0", "4 4 4 4 4");
        // a line without spaces that is not the last one
        duePlaces(Mill.right("AA BB").line(10), "6 2 - 6 2", "4 4 - 4 4");
        duePlaces(Mill.of("aa bb").line(10), "0 4 - 0 4", "4 4 - 4 4");
    }

    private static void places() {
        says("The place of a glyph is where its line begins plus the widths of all glyphs to the left of it.");
        duePlaces(Mill.of("a AB 12"), "0 4 24 20 16 8 12", "4 4 4 4 4 4 4");
        duePlaces(Mill.right("a AB 12"), "56 52 48 44 40 32 36", "4 4 4 4 4 4 4");
        duePlaces(Mill.right("aA").width('A', 9), "56 47", "4 9");
        duePlaces(Mill.of("abC").width('a', 20).width('b', 1), "0 20 21", "20 1 4");
        duePlaces(Mill.of("fifi").line(80).rule('f', 'i', 40), "0 0 40 40", "40 40 40 40");
    }

    // ---- promises 32 to 37

    private static void glyphsOfLine() {
        says("Promise 32: Returns the number of glyphs of a line without dropped spaces.");
        dueRow(Mill.of("a"), Check::glyphsOf, "1");
        dueRow(Mill.of("a  "), Check::glyphsOf, "1");
        dueRow(Mill.of("  a b  "), Check::glyphsOf, "5");
        dueRow(Mill.of("  aa").line(10), Check::glyphsOf, "0 2");
        dueRow(Mill.of("aa[ }bb-").line(12), Check::glyphsOf, "2 3");
        dueRow(Mill.of("fi fi").rule('f', 'i', 4), Check::glyphsOf, "3");
        dueRow(Mill.of("a".repeat(50)).line(200), Check::glyphsOf, "50");
        dueRow(Mill.of("  "), Check::glyphsOf, "");
    }

    private static void glyphsByRank() {
        says("Promise 33: glyphAt returns the index of the first character of the glyph.");
        dueOrder(Mill.of("[{AB"), 0, "3 2");
        dueOrder(Mill.of("x[f}{i").rule('f', 'i', 4), 0, "0 2");
        dueOrder(Mill.of("aa [BB}").line(10), 1, "5 4");
        dueOrder(Mill.of("  aa").line(10), 0, "");
        dueOrder(Mill.of("  aa").line(10), 1, "2 3");
    }

    private static void ranks() {
        says("Promises 34 and 35: Returns the rank of the glyph that contains a character, found by reversing. Returns the same as rankOf, "
                + "found by counting the glyphs that stand to the left by the second way.");
        dueRanks(Mill.of("xfilx").rule('f', 'i', 4).rule(200, 'l', 4), "0 1 1 1 2");
        dueRanks(Mill.of("A[}B").rule('A', 'B', 4), "0 m m 0");
        dueRanks(Mill.of(" a b  "), "0 1 2 3 - -");
        dueRanks(Mill.of("aa bb ").line(10), "0 1 - 0 1 -");
    }

    private static void justifiedWidths() {
        says("Promise 37: Returns the width of the glyph that contains a character as it stands in its line; for a space that is "
                + "stretched or shrunk the changed one.");
        dueEach(Mill.of("fi fi xxx").rule('f', 'i', 5).line(16), Check::justifiedWidth, "5 5 6 5 5 - 4 4 4");
        dueEach(Mill.of("fi fi").rule('f', 'i', 5).line(13), Check::justifiedWidth, "5 5 3 5 5");
        dueEach(Mill.of("fi fi").rule('f', 'i', 5).line(15), Check::justifiedWidth, "5 5 4 5 5");
    }

    private static void refusedLines(String promise, OfIndex question) {
        says(promise + " throws `IndexOutOfBoundsException` if there is no such line");
        Mill two = Mill.of("aa {bb}").line(10);
        for (int line : new int[] {-1, 2, 3, 50, LEAST, MOST}) {
            refused(two, question.of(line), INDEX);
        }
        for (String text : new String[] {"", " ", "[", " [ "}) {
            for (int line : new int[] {0, 1, -1}) {
                refused(Mill.of(text), question.of(line), INDEX);
            }
        }
        due("the last line", false, () -> answer(two.make(), question.of(1)).equals(INDEX));
        refused(two.cut(3), question.of(1), INDEX);
        refused(Mill.of("-".repeat(50)).line(10).width('-', 10), question.of(50), INDEX);
    }

    private static void refusedRanks() {
        says("Promise 33: glyphAt throws `IndexOutOfBoundsException` if it has no such rank");
        Mill two = Mill.of("aaa  b ").line(12);
        for (int rank : new int[] {-1, 3, 4, LEAST, MOST}) {
            refused(two, glyphAt(0, rank), INDEX);
        }
        for (int rank : new int[] {-1, 1, 2, LEAST, MOST}) {
            refused(two, glyphAt(1, rank), INDEX);
        }
        due(two, glyphAt(0, 0), 0);
        due(two, glyphAt(0, 2), 2);
        due(two, glyphAt(1, 0), 5);
        refused(Mill.of("  aa").line(10), glyphAt(0, 0), INDEX);
        refused(Mill.of("a".repeat(50)).line(200), glyphAt(0, 50), INDEX);
        due(Mill.of("a".repeat(50)).line(200), glyphAt(0, 49), 49);
    }

    private static void refusedWhereNotPossible(String promise, Ask ask, Object ofWiderLine) {
        says(promise + " throws `IllegalStateException` if lines are not possible");
        for (Mill mill : new Mill[] {Mill.of("aaa").line(11), Mill.of("aaa [aaaa ").line(12)}) {
            refused(mill, ask, STATE);
            due(mill.line(16).width(' ', 20), ask, ofWiderLine);
        }
    }

    private static void refusedIndices(String promise, OfIndex question) {
        says(promise + " throws `IndexOutOfBoundsException` if there is no such index");
        for (int i : new int[] {-1, 7, 8, 50, LEAST, MOST}) {
            refused(Mill.of("aa {bb}").line(10), question.of(i), INDEX);
            refused(Mill.NEW, question.of(i), INDEX);
        }
        refused(Mill.NEW, question.of(0), INDEX);
        refused(Mill.of("a".repeat(50)).line(200), question.of(50), INDEX);
    }

    private static void refusedMarks(String promise, OfIndex question) {
        says(promise + " throws `UnsupportedOperationException` if it is a mark");
        refused(Mill.of("aa {bb}").line(10), question.of(3), UNSUPPORTED);
        refused(Mill.of("aa {bb}").line(10), question.of(6), UNSUPPORTED);
        refused(Mill.of("[aa"), question.of(0), UNSUPPORTED);
        refused(Mill.of("["), question.of(0), UNSUPPORTED);
    }

    private static void refusedDroppedSpaces(String promise, OfIndex question) {
        says(promise + " throws `NoSuchElementException` if it is a dropped space");
        for (int i : new int[] {0, 1, 4, 5, 8, 9}) {
            refused(Mill.of("  aa  bb  ").line(10), question.of(i), NO_ELEMENT);
        }
        refused(Mill.of("a" + " ".repeat(49)), question.of(49), NO_ELEMENT);
        refused(Mill.of("a" + " ".repeat(49)), question.of(1), NO_ELEMENT);
        // a space is not dropped any more as soon as something comes behind it in its line
        refused(Mill.of("a "), question.of(1), NO_ELEMENT);
        refused(Mill.of("a [}"), question.of(1), NO_ELEMENT);
        refused(Mill.of("a b").cut(1), question.of(1), NO_ELEMENT);
        refused(Mill.of("a bb").line(10), question.of(1), NO_ELEMENT);
        due("a space that is not dropped", false, () -> answer(Mill.of("a b").make(), question.of(1)).equals(NO_ELEMENT));
    }

    private static void refusedWithoutLines(String promise, OfIndex question) {
        says(promise + " throws `NoSuchElementException` if there are no lines");
        refused(Mill.of(" [ "), question.of(0), NO_ELEMENT);
        refused(Mill.of(" [ "), question.of(2), NO_ELEMENT);
        refused(Mill.of(" "), question.of(0), NO_ELEMENT);
        refused(Mill.of(" ".repeat(50)), question.of(49), NO_ELEMENT);
        refused(Mill.of(" a").cut(1), question.of(0), NO_ELEMENT);
    }
}
