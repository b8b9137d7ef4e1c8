/** Promises 16 to 18, and what 'Glyphs' says: a test for each sentence. */
public final class GlyphsTest extends Check {
    public static void main(String[] args) {
        widthsAtFirst();
        madeOf();
        ligatureNumbers();
        formedFromTheBeginning();
        longestChain();
        onlyInARun();
        widthsOfGlyphs();
        ruleAddedLater();
        glyphsCounted();
        glyphStarts();
        refusedIndices("Promise 16: glyphOf", Check::glyphOf);
        refusedIndices("Promise 17: glyphStart", Check::glyphStart);
        refusedMarks("Promise 16: glyphOf", Check::glyphOf);
        refusedMarks("Promise 17: glyphStart", Check::glyphStart);
        end();
    }

    private static void dueGlyphs(Mill mill, String numbers, String starts, int count) {
        dueEach(mill, Check::glyphOf, numbers);
        dueEach(mill, Check::glyphStart, starts);
        due(mill, glyphs(), count);
    }

    private static void widthsAtFirst() {
        says("Each character has a width, initially 4.");
        for (char c : SHOWN.toCharArray()) {
            due(Mill.NEW, setWidth(c, 1), 4);
            due(Mill.of("a" + c + "a"), widthOf(0), 12);
        }
        due(Mill.of("a".repeat(50)).line(200), widthOf(0), 200);
    }

    private static void madeOf() {
        says("A ligature is made of a letter or another ligature, and of a letter that follows it, and has a width.");
        Mill mill = Mill.NEW.rule('f', 'i', 5).rule(200, 'l', 7).rule('A', 'B', 40);
        dueGlyphs(mill.type("fi"), "200 200", "0 0", 1);
        dueGlyphs(mill.type("fil"), "201 201 201", "0 0 0", 1);
        dueGlyphs(mill.type("f"), "102", "0", 1);
        dueGlyphs(mill.type("if"), "105 102", "0 1", 2);
        dueGlyphs(mill.type("BA"), "66 65", "0 1", 2);
        dueGlyphs(mill.type("AB"), "202 202", "0 0", 1);
        dueGlyphs(mill.type("f-i"), "102 45 105", "0 1 2", 3);
        dueGlyphs(mill.type("f1i"), "102 49 105", "0 1 2", 3);
        dueGlyphs(mill.type("fi l"), "200 200 32 108", "0 0 2 3", 3);
        dueGlyphs(mill.type("fL"), "102 76", "0 1", 2);
        due(mill.type("fi"), widthOf(0), 5);
        due(mill.type("fil"), widthOf(0), 7);
        due(mill.type("AB"), widthOf(0), 40);
    }

    private static void ligatureNumbers() {
        says("Ligatures have numbers from 200 in the order in which their rules were added.");
        Mill mill = Mill.NEW;
        for (int i = 0; i < 20; i++) {
            char second = (char) ('A' + i);
            due(mill, addLigature('Z', second, 20 - i), 200 + i);
            mill = mill.rule('Z', second, 20 - i);
            dueEach(mill.type("Z" + second), Check::glyphOf, (200 + i) + " " + (200 + i));
        }
        // a rule that is refused takes no number
        Mill refusing = Mill.NEW.rule('a', 'b', 3)
                .then(new Ask("refused", m -> answer(m, addLigature('a', 'b', 3))))
                .then(new Ask("refused", m -> answer(m, addLigature('a', 'c', 41))));
        due(refusing, addLigature('a', 'c', 3), 201);
    }

    private static void formedFromTheBeginning() {
        says("The glyphs of a run are formed from its beginning on: a glyph begins with the next character of the run and "
                + "has the code of this character as its number; as long as there is a rule for the number of the glyph "
                + "and the next character of the run, the glyph becomes this ligature and contains this character, too.");
        dueGlyphs(Mill.of("a b "), "97 32 98 32", "0 1 2 3", 4);
        dueGlyphs(Mill.of("[A}9-,."), "m 65 m 57 45 44 46", "m 1 m 3 4 5 6", 5);
        Mill mill = Mill.NEW.rule('a', 'b', 3).rule(200, 'c', 4).rule('b', 'c', 5).rule('a', 'a', 6).rule(203, 'a', 7);
        dueGlyphs(mill.type("abc"), "201 201 201", "0 0 0", 1);
        dueGlyphs(mill.type("abd"), "200 200 100", "0 0 2", 2);
        // no ligature begins inside another glyph, or reaches back into one
        dueGlyphs(mill.type("bbc"), "98 202 202", "0 1 1", 2);
        dueGlyphs(mill.type("abbc"), "200 200 202 202", "0 0 2 2", 2);
        dueGlyphs(mill.type("aab"), "203 203 98", "0 0 2", 2);
        dueGlyphs(mill.type("aabc"), "203 203 202 202", "0 0 2 2", 2);
        dueGlyphs(mill.type("aaaaab"), "204 204 204 203 203 98", "0 0 0 3 3 5", 3);
        dueGlyphs(mill.type("aaaa"), "204 204 204 97", "0 0 0 3", 2);
        dueGlyphs(Mill.NEW.rule('b', 'c', 3).rule('a', 'b', 3).type("abc"), "201 201 99", "0 0 2", 2);
        dueGlyphs(Mill.NEW.rule('b', 'c', 3).rule(200, 'a', 3).type("abca"), "97 201 201 201", "0 1 1 1", 2);
    }

    private static void longestChain() {
        says("As long as there is a rule for the number of the glyph and the next character of the run, the glyph becomes "
                + "this ligature: as long as there are rules.");
        Mill mill = Mill.NEW.rule('a', 'a', 40);
        for (int i = 0; i < 19; i++) {
            mill = mill.rule(200 + i, 'a', 40);
        }
        dueGlyphs(mill.type("a".repeat(21)), "219 ".repeat(21).trim(), "0 ".repeat(21).trim(), 1);
        dueGlyphs(mill.type("a".repeat(22)), "219 ".repeat(21) + "97", "0 ".repeat(21) + "21", 2);
        dueGlyphs(mill.type("a".repeat(50)), "219 ".repeat(42) + "206 ".repeat(8).trim(),
                "0 ".repeat(21) + "21 ".repeat(21) + "42 ".repeat(8).trim(), 3);
        dueGlyphs(mill.line(200).type("a".repeat(50)).cut(49), "97", "0", 1);
        due(mill.line(120).type("a".repeat(50)), widthOf(0), 120);
    }

    private static void onlyInARun() {
        says("The glyphs of a run are formed from its beginning on: no glyph reaches beyond its run.");
        Mill mill = Mill.NEW.rule('f', 'i', 5).rule('m', 'n', 5).rule('a', 'A', 5).rule('n', 'z', 5).rule('Q', 'R', 5);
        dueGlyphs(mill.type("mn"), "109 110", "0 1", 2);
        dueGlyphs(mill.type("nz"), "203 203", "0 0", 1);
        dueGlyphs(mill.type("aA"), "97 65", "0 1", 2);
        dueGlyphs(mill.type("QR"), "204 204", "0 0", 1);
        dueGlyphs(mill.type("f[i"), "102 m 105", "0 m 2", 2);
        dueGlyphs(mill.type("f[}i"), "200 m m 200", "0 m m 0", 1);
        dueGlyphs(mill.type("{QR}"), "m 204 204 m", "m 1 1 m", 1);
        dueGlyphs(mill.type("[{Q}{R"), "m m 204 m m 204", "m m 2 m m 2", 1);
        dueGlyphs(mill.type("Q1R"), "81 49 82", "0 1 2", 3);
        // a run goes on where the level and the script are the same, even if the embedding level is not
        dueGlyphs(mill.type("[f}{[i"), "m 200 m m m 200", "m 1 m m m 1", 1);
        dueGlyphs(mill.type("[f}{i"), "m 200 m m 200", "m 1 m m 1", 1);
        dueGlyphs(mill.type("[f}[i"), "m 200 m m 200", "m 1 m m 1", 1);
        dueGlyphs(mill.type("Q{R"), "204 m 204", "0 m 0", 1);
    }

    private static void widthsOfGlyphs() {
        says("The width of a glyph is that of its character or of its ligature.");
        Mill mill = Mill.of("fi f").rule('f', 'i', 1).width('f', 20).width('i', 20);
        due(mill, widthOf(0), 25);
        dueEach(mill, Check::justifiedWidth, "1 1 4 20");
        due(Mill.of("fi").rule('f', 'i', 40).width('f', 1).width('i', 1), widthOf(0), 40);
        due(Mill.of("fi").width('f', 1).width('i', 20), widthOf(0), 21);
        due(Mill.of("fil").rule('f', 'i', 40).rule(200, 'l', 1), widthOf(0), 1);
    }

    private static void ruleAddedLater() {
        says("The glyphs of a run are formed by the rules that there are, whenever they were added.");
        dueGlyphs(Mill.of("abab"), "97 98 97 98", "0 1 2 3", 4);
        Mill one = Mill.of("abab").then(glyphs()).rule('a', 'b', 9);
        dueGlyphs(one, "200 200 200 200", "0 0 2 2", 2);
        dueGlyphs(one.then(glyphs()).rule(200, 'a', 1), "201 201 201 98", "0 0 0 3", 2);
        dueGlyphs(one.then(glyphs()).cut(1), "200 200 97", "0 0 2", 2);
    }

    private static void glyphsCounted() {
        says("Promise 18: Returns the number of glyphs of the text, those of spaces included.");
        due(Mill.NEW, glyphs(), 0);
        due(Mill.of("[{}"), glyphs(), 0);
        due(Mill.of("a"), glyphs(), 1);
        due(Mill.of(" "), glyphs(), 1);
        due(Mill.of("  a [ }-  "), glyphs(), 8);
        due(Mill.of(" ".repeat(50)), glyphs(), 50);
        due(Mill.of("A1".repeat(25)), glyphs(), 50);
        due(Mill.of("fi fi ").rule('f', 'i', 3), glyphs(), 4);
        // they are glyphs of the text where lines are not possible, too
        due(Mill.of("aaa bb ").line(10), glyphs(), 7);
    }

    private static void glyphStarts() {
        says("Promise 17: glyphStart returns the index of the first character of the glyph.");
        Mill mill = Mill.NEW.rule('f', 'i', 5).rule(200, 'l', 7);
        dueEach(mill.type("[f{}i}[l"), Check::glyphStart, "m 1 m m 1 m m 1");
        dueEach(mill.type("f".repeat(49) + "i"), Check::glyphStart, ordered(49) + " 48");
        dueEach(Mill.of("-".repeat(50)), Check::glyphStart, ordered(50));
    }

    private static String ordered(int size) {
        StringBuilder all = new StringBuilder("0");
        for (int i = 1; i < size; i++) {
            all.append(' ').append(i);
        }
        return all.toString();
    }

    private static void refusedIndices(String promise, OfIndex question) {
        says(promise + " throws `IndexOutOfBoundsException` if there is no such index");
        for (int i : new int[] {-1, 4, 5, 50, 200, LEAST, MOST}) {
            refused(Mill.of("a[b-"), question.of(i), INDEX);
        }
        for (int i : new int[] {-1, 0, 1}) {
            refused(Mill.NEW, question.of(i), INDEX);
        }
        refused(Mill.of("fi").rule('f', 'i', 3).cut(1), question.of(1), INDEX);
        refused(Mill.of("a".repeat(50)), question.of(50), INDEX);
    }

    private static void refusedMarks(String promise, OfIndex question) {
        says(promise + " throws `UnsupportedOperationException` if it is a mark");
        for (int i : new int[] {0, 2, 3, 5}) {
            refused(Mill.of("[f{}i}").rule('f', 'i', 3), question.of(i), UNSUPPORTED);
        }
        refused(Mill.of("["), question.of(0), UNSUPPORTED);
        refused(Mill.of("[" + "a".repeat(48) + "{"), question.of(49), UNSUPPORTED);
    }
}
