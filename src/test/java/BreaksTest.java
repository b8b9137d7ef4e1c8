/** Promises 19 to 22, and what 'Breaks and lines' says: a test for each sentence. */
public final class BreaksTest extends Check {
    public static void main(String[] args) {
        breakPlaces();
        breakRanks();
        breaksCounted();
        lineBegins();
        blankText();
        droppedSpaces();
        otherSpaces();
        naturalWidth();
        difference();
        possibleLine();
        possibleParts();
        tooWideBegins();
        excessOfPart();
        end();
    }

    private static void dueBreaks(String text, String want) {
        due(Mill.of(text), breaks(), want.isEmpty() ? 0 : want.split(" ").length);
        dueRow(Mill.of(text), Check::breakAt, want);
    }

    // ---- Breaks and lines

    private static void breakPlaces() {
        says("There is a break place ahead of a character that is not a space, if the neighbour ahead of it is a space or "
                + "'-'.");
        dueBreaks("a b", "2");
        dueBreaks("a-b", "2");
        // ahead of each kind of character, but no space
        dueBreaks(" a A 1 - , .", "1 3 5 7 9 11");
        dueBreaks("-a-A-1---,-.", "1 3 5 7 8 9 11");
        dueBreaks("a   b", "4");
        dueBreaks("a- b", "3");
        dueBreaks("a -b", "2 3");
        dueBreaks("---", "1 2");
        // none behind other characters, at the beginning of the text, at its end, or ahead of a mark
        dueBreaks("a,b.c1d", "");
        dueBreaks("ab", "");
        dueBreaks("-", "");
        dueBreaks("a ", "");
        dueBreaks("a-", "");
        dueBreaks("a- ", "");
        dueBreaks("[a", "");
        dueBreaks("a [{}}", "");
        dueBreaks("a-[{}}", "");
        // the neighbour ahead of it may stand ahead of marks
        dueBreaks("a [b}-{}c", "3 8");
        dueBreaks("[ }{,", "4");
        dueBreaks("[-}", "");
        dueBreaks("[ }[{a", "5");
        dueBreaks("A{ }[-}B", "5 7");
    }

    private static void breakRanks() {
        says("Promise 20: breakAt throws `IndexOutOfBoundsException` if there is no such rank");
        for (int rank : new int[] {-1, 3, 4, 50, LEAST, MOST}) {
            refused(Mill.of("ab cd-ef  g"), breakAt(rank), INDEX);
        }
        for (int rank : new int[] {0, 1, -1, LEAST, MOST}) {
            refused(Mill.NEW, breakAt(rank), INDEX);
            refused(Mill.of("ab"), breakAt(rank), INDEX);
            refused(Mill.of("   "), breakAt(rank), INDEX);
        }
        due(Mill.of("ab cd-ef  g"), breakAt(0), 3);
        due(Mill.of("ab cd-ef  g"), breakAt(2), 10);
        refused(Mill.of("a b").cut(1), breakAt(0), INDEX);
        refused(Mill.of("-".repeat(50)), breakAt(49), INDEX);
        due(Mill.of("-".repeat(50)), breakAt(48), 49);
        due(Mill.of("-".repeat(50)), breakAt(0), 1);
        // where lines are not possible, there are break places all the same
        due(Mill.of("aaa bbb").line(10), breakAt(0), 4);
    }

    private static void breaksCounted() {
        says("Promise 19: breaks returns the number of break places.");
        due(Mill.NEW, breaks(), 0);
        due(Mill.of("a"), breaks(), 0);
        due(Mill.of("["), breaks(), 0);
        due(Mill.of(" ".repeat(50)), breaks(), 0);
        due(Mill.of(" ".repeat(49) + "a"), breaks(), 1);
        due(Mill.of("a ".repeat(25)), breaks(), 24);
        due(Mill.of(" a".repeat(25)), breaks(), 25);
        due(Mill.of("-".repeat(50)), breaks(), 49);
        due(Mill.of("-".repeat(50)).cut(49), breaks(), 0);
        due(Mill.of("aaa bbb-c").line(10), breaks(), 2);
        // width and base level do not matter
        due(Mill.right("a b-C").line(200), breaks(), 2);
    }

    private static void lineBegins() {
        says("A line begins at the beginning of the text or at a break place, and goes to the next one of the break "
                + "places that are used, or to the end of the text.");
        Mill mill = Mill.of("aa bb-cc dd").line(20);
        dueRow(mill.line(10).width('-', 2), Check::firstOf, "0 3 6 9");
        dueRow(mill.line(200), Check::firstOf, "0");
        dueEach(mill.line(200), Check::lineOf, "0 0 0 0 0 0 0 0 0 0 0");
        dueEach(mill.line(10).width('-', 2), Check::lineOf, "0 0 0 1 1 1 2 2 2 3 3");
        // a space goes with the line ahead of it, and the first line begins with the text, even with spaces
        dueEach(Mill.of("  aa  bb  ").line(16), Check::lineOf, "0 0 0 0 0 0 1 1 1 1");
    }

    private static void blankText() {
        says("If a text has no characters other than spaces and marks, it has no lines, and lines are possible.");
        for (String text : new String[] {"", " ", "   ", "[", "[{", "[ } ", "{ [", " ".repeat(50), "[}".repeat(25)}) {
            Mill mill = Mill.of(text).line(10).width(' ', 20);
            due(mill, tooWide(), -1);
            due(mill, excess(), 0);
            due(mill, lines(), 0);
            due(mill, linesByFirstFit(), 0);
            due(mill, demerits(), 0);
            due(mill, demeritsByTrying(), 0);
            due(mill, linesByTrying(), 0);
            dueRow(mill, Check::firstOf, "");
            dueRow(mill, Check::widthOf, "");
            dueRow(mill, Check::badnessOf, "");
            dueRow(mill, Check::glyphsOf, "");
        }
        // one other character, of each kind
        for (char c : "aZ0-,.".toCharArray()) {
            due(Mill.of("" + c), lines(), 1);
            due(Mill.of("[ }" + c), lines(), 1);
            due(Mill.of(c + " "), lines(), 1);
            due(Mill.of("[ }" + c).cut(1), lines(), 0);
        }
    }

    private static void droppedSpaces() {
        says("The spaces behind the last other character of a line are dropped, and in a line without other characters "
                + "all spaces are; they have no place.");
        dueEach(Mill.of("aa   bb [ } "), Check::placeOf, "0 4 8 12 16 20 24 - m - m -");
        dueEach(Mill.of("aa   bb [ } ").line(10), Check::placeOf, "0 4 - - - 0 4 - m - m -");
        dueEach(Mill.of("aa   bb [ } ").line(10), Check::rankOf, "0 1 - - - 0 1 - m - m -");
        dueEach(Mill.of("aa   bb [ } ").line(10), Check::justifiedWidth, "4 4 - - - 4 4 - m - m -");
        // behind each other kind of last character
        dueEach(Mill.of("a 1 - , .  "), Check::placeOf, "0 4 8 12 16 20 24 28 32 - -");
        // one, and none
        dueEach(Mill.of("a "), Check::placeOf, "0 -");
        dueEach(Mill.of("a"), Check::placeOf, "0");
        // a line without other characters is the first one
        Mill blank = Mill.of("[ } aaa").line(12);
        dueEach(blank, Check::placeOf, "m - m - 0 4 8");
        dueEach(blank, Check::lineOf, "m 0 m 0 1 1 1");
        dueRow(blank, Check::glyphsOf, "0 3");
        dueRow(blank, Check::widthOf, "0 12");
        dueRow(blank, Check::badnessOf, "10000 0");
        // wide ones do not make a line too wide, as long as they are dropped
        due(Mill.of("aa    ").line(10).width(' ', 20), tooWide(), -1);
        due(Mill.of("    aa").line(10).width(' ', 20), tooWide(), -1);
        due(Mill.of("aa    ").line(10).width(' ', 20), lines(), 1);
        due(Mill.of("    aa").line(10).width(' ', 20), lines(), 2);
    }

    private static void otherSpaces() {
        says("All other spaces of a line can be stretched and shrunk.");
        // 8 more for one space, for two of them side by side, and for one ahead of the first word
        dueEach(Mill.of("a b cccc").line(20), Check::justifiedWidth, "4 12 4 - 4 4 4 4");
        dueEach(Mill.of("a  b ccccc").line(24), Check::justifiedWidth, "4 8 8 4 - 4 4 4 4 4");
        dueEach(Mill.of(" a cccc").line(16), Check::justifiedWidth, "12 4 - 4 4 4 4");
        dueEach(Mill.of("a[ }b cccc").line(20), Check::justifiedWidth, "4 m 12 m 4 - 4 4 4 4");
        dueEach(Mill.of("a - cccc").line(20), Check::justifiedWidth, "4 12 4 - 4 4 4 4");
        // 1 less
        dueEach(Mill.of("aa bb").line(19), Check::justifiedWidth, "4 4 3 4 4");
        dueEach(Mill.of("aa  bb").line(22), Check::justifiedWidth, "4 4 3 3 4 4");
        dueEach(Mill.of(" aa").line(11), Check::justifiedWidth, "3 4 4");
        // even if nothing of them is left
        dueEach(Mill.of("aa bb").line(16).width(' ', 1), Check::justifiedWidth, "4 4 0 4 4");
    }

    private static void naturalWidth() {
        says("The natural width of a line is the sum of the widths of its glyphs without dropped spaces.");
        dueRow(Mill.of("aa"), Check::widthOf, "8");
        dueRow(Mill.of("  aa   bb  "), Check::widthOf, "36");
        dueRow(Mill.of("[a{a}} "), Check::widthOf, "8");
        dueRow(Mill.of("fi a ").rule('f', 'i', 40), Check::widthOf, "48");
        dueRow(Mill.of("a b ").width('a', 1).width('b', 20).width(' ', 7), Check::widthOf, "28");
        // it is not the width behind stretching or shrinking
        dueRow(Mill.of("aa bb").line(19), Check::widthOf, "20");
        dueRow(Mill.of("a b cccc").line(20), Check::widthOf, "12 16");
    }

    private static void difference() {
        says("The difference of a line is the line width minus its natural width.");
        dueEach(Mill.right("AA").line(10), Check::placeOf, "6 2");
        dueEach(Mill.right("AA").line(200), Check::placeOf, "196 192");
        dueEach(Mill.right("A".repeat(50)).line(200).cut(48), Check::placeOf, "196 192");
        dueEach(Mill.right("AAAAA").line(20), Check::placeOf, "16 12 8 4 0");
    }

    private static void possibleLine() {
        says("A line is possible if the difference is 0 or more, or if it is not less than minus the number of spaces "
                + "that can be shrunk.");
        // without spaces: 0, and -1
        due(Mill.of("aaaaa").line(20), lines(), 1);
        due(Mill.of("aaaaa").line(19), lines(), STATE);
        due(Mill.of("aaaaa ").line(19), lines(), STATE);
        // with one space: 0, -1, and -2
        due(Mill.of("aa bb").line(20), lines(), 1);
        due(Mill.of("aa bb").line(19), lines(), 1);
        due(Mill.of("aa bb").line(18), lines(), 2);
        // with two of them: -2, and -3
        due(Mill.of("a b c").line(18), lines(), 1);
        due(Mill.of("a b c").line(17), lines(), 2);
        due(Mill.of("aa  bb").line(22), lines(), 1);
        due(Mill.of("aa  bb").line(21), lines(), 2);
        // dropped ones can't be shrunk
        due(Mill.of("aa bb   ").line(18), lines(), 2);
        due(Mill.of("aa bb   ").line(19), lines(), 1);
        due(Mill.of("aa bb cc").line(19).width('c', 9), lines(), 2);
        due(Mill.of("aa bb cc").line(18).width('c', 9), lines(), 3);
        // spaces ahead of the first word can
        due(Mill.of(" aa").line(11), lines(), 1);
        due(Mill.of(" aa").line(10), lines(), 2);
        due(Mill.of("  aa").line(14), lines(), 1);
        due(Mill.of("  aa").line(13), lines(), 2);
        // each by 1, even if it is as wide as 20, or as narrow as 1
        due(Mill.of("aa bb").line(35).width(' ', 20), lines(), 1);
        due(Mill.of("aa bb").line(34).width(' ', 20), lines(), 2);
        due(Mill.of("aa bb").line(16).width(' ', 1), lines(), 1);
        due(Mill.of("aa bb").line(15).width(' ', 1), lines(), 2);
    }

    private static void possibleParts() {
        says("Lines are possible if each part of the text between two break places that come one after the other, or the "
                + "beginning or the end of the text, is possible as a line.");
        // the only part, the first, a middle and the last one: exact, and 1 more
        for (String text : new String[] {"zz", "zz aa bb", "aa zz bb", "aa-zz bb", "aa bb zz", "zz   ", "[zz}", "aa -zz"}) {
            due(Mill.of(text).line(12).width('z', 6), tooWide(), -1);
            due(Mill.of(text).line(12).width('z', 7), tooWide(), text.indexOf('z'));
            due(Mill.of(text).line(12).width('z', 7), lines(), STATE);
        }
        due(Mill.of("aa-").line(12), tooWide(), -1);
        due(Mill.of("aa-").line(11), tooWide(), 0);
        due(Mill.of("aa -").line(10), tooWide(), -1);
        due(Mill.of("aa,").line(11), tooWide(), 0);
        // a line of several parts need not be possible
        due(Mill.of("aa aa aa aa aa").line(10), lines(), 5);
        due(Mill.of("a".repeat(50)).line(200), lines(), 1);
        due(Mill.of("a".repeat(50)).line(199), lines(), STATE);
        due(Mill.of("fi").rule('f', 'i', 40).line(40), lines(), 1);
        due(Mill.of("fi").rule('f', 'i', 40).line(39), lines(), STATE);
    }

    // ---- promises 21 and 22

    private static void tooWideBegins() {
        says("Promise 21: tooWide returns the index of the first character of the part that is not a mark, or -1 if lines are "
                + "possible.");
        due(Mill.NEW, tooWide(), -1);
        due(Mill.of("aaa").line(12), tooWide(), -1);
        due(Mill.of("aaa").line(11), tooWide(), 0);
        due(Mill.of("aaa bb").line(10), tooWide(), 0);
        due(Mill.of("bb aaa").line(10), tooWide(), 3);
        due(Mill.of("bb-aaa").line(12), tooWide(), -1);
        due(Mill.of("b-aaa").line(11), tooWide(), 2);
        due(Mill.of("  aaa").line(11), tooWide(), 2);
        // marks at the beginning of the text and of the part
        due(Mill.of("[{aaa").line(11), tooWide(), 2);
        due(Mill.of("bb [{}aaa").line(11), tooWide(), 6);
        due(Mill.of("bb[ }{aaa").line(11), tooWide(), 6);
        // the first one of two, though the other one is wider
        due(Mill.of("bb aaa aaaaa").line(11), tooWide(), 3);
        due(Mill.of("aaa aaa").line(11), tooWide(), 0);
        due(Mill.of("aaa").line(11).width('a', 3), tooWide(), -1);
        due(Mill.of("bb" + " ".repeat(47) + "a").line(10).width('a', 11), tooWide(), 49);
        due(Mill.of("bb aaa").line(11).cut(1), tooWide(), -1);
    }

    private static void excessOfPart() {
        says("Promise 22: excess returns by how much this part is wider than the line width, or 0 if lines are possible.");
        due(Mill.NEW, excess(), 0);
        due(Mill.of("aaa").line(12), excess(), 0);
        due(Mill.of("aa").line(12), excess(), 0);
        due(Mill.of("aaa").line(11), excess(), 1);
        due(Mill.of("aaa").line(10), excess(), 2);
        due(Mill.of("aaa    ").line(10), excess(), 2);
        due(Mill.of("    aaa").line(10), excess(), 2);
        due(Mill.of("bb aaa- aaaaa").line(11), excess(), 5);
        due(Mill.of("bb aaa aaaaa").line(11), excess(), 1);
        due(Mill.of("a".repeat(50)).line(10).width('a', 20), excess(), 990);
        due(Mill.of("a b c d e f g").line(10), excess(), 0);
        due(Mill.of("fi").rule('f', 'i', 40).line(10), excess(), 30);
        due(Mill.of("   ").line(10).width(' ', 20), excess(), 0);
    }
}
