/** Promises 16 to 18: glyphs and ligatures. */
public final class GlyphsTest {
    public static void main(String[] args) {
        withoutRules();
        ligatures();
        chains();
        onlyInARun();
        rulesAddedLater();
        Check.end();
    }

    private static void due(Glyphmill mill, String text, String numbers, String starts, int count) {
        for (int i = mill.length(); i > 0; i--) {
            mill.removeLast();
        }
        Check.type(mill, text);
        Check.due("glyphs of " + text, numbers, () -> Check.each(mill, mill::glyphOf));
        Check.due("starts of " + text, starts, () -> Check.each(mill, mill::glyphStart));
        Check.due("number of glyphs of " + text, count, mill::glyphs);
    }

    private static void withoutRules() {
        Glyphmill mill = new Glyphmill();
        due(mill, "", "", "", 0);
        due(mill, "[{}", "m m m", "m m m", 0);
        due(mill, "a b ", "97 32 98 32", "0 1 2 3", 4);
        due(mill, "[A}9-,.", "m 65 m 57 45 44 46", "m 1 m 3 4 5 6", 5);
    }

    private static void ligatures() {
        Glyphmill mill = new Glyphmill();
        mill.addLigature('f', 'i', 5);
        mill.addLigature(200, 'l', 7);
        mill.addLigature('A', 'B', 40);
        due(mill, "fil", "201 201 201", "0 0 0", 1);
        Check.due("width of fil", 7, () -> mill.widthOf(0));
        due(mill, "fi", "200 200", "0 0", 1);
        Check.due("width of fi", 5, () -> mill.widthOf(0));
        due(mill, "ffi", "102 200 200", "0 1 1", 2);
        due(mill, "fifil", "200 200 201 201 201", "0 0 2 2 2", 2);
        due(mill, "if", "105 102", "0 1", 2);
        due(mill, "f-i", "102 45 105", "0 1 2", 3);
        due(mill, "fi l", "200 200 32 108", "0 0 2 3", 3);
        due(mill, "xfilx AB", "120 201 201 201 120 32 202 202", "0 1 1 1 4 5 6 6", 5);
    }

    /** A glyph takes what it can from its beginning on, and the next one begins behind it. */
    private static void chains() {
        Glyphmill mill = new Glyphmill();
        mill.addLigature('a', 'b', 3);
        mill.addLigature(200, 'c', 4);
        mill.addLigature('b', 'c', 5);
        mill.addLigature('a', 'a', 6);
        mill.addLigature(203, 'a', 7);
        due(mill, "abc", "201 201 201", "0 0 0", 1);
        due(mill, "abd", "200 200 100", "0 0 2", 2);
        due(mill, "bbc", "98 202 202", "0 1 1", 2);
        due(mill, "abbc", "200 200 202 202", "0 0 2 2", 2);
        due(mill, "aab", "203 203 98", "0 0 2", 2);
        due(mill, "aaaaab", "204 204 204 203 203 98", "0 0 0 3 3 5", 3);
        due(mill, "aaaa", "204 204 204 97", "0 0 0 3", 2);
        mill.addLigature(204, 'a', 8);
        due(mill, "aaaa", "205 205 205 205", "0 0 0 0", 1);
    }

    private static void onlyInARun() {
        Glyphmill mill = new Glyphmill();
        mill.addLigature('f', 'i', 5);
        mill.addLigature('m', 'n', 5);
        mill.addLigature('a', 'A', 5);
        mill.addLigature('n', 'z', 5);
        mill.addLigature('Q', 'R', 5);
        due(mill, "f[}i", "200 m m 200", "0 m m 0", 1);
        due(mill, "{QR}", "m 204 204 m", "m 1 1 m", 1);
        // a run goes on where the level is the same, even if the embedding level is not
        due(mill, "[f}{[i", "m 200 m m m 200", "m 1 m m m 1", 1);
        due(mill, "[f}{i", "m 200 m m 200", "m 1 m m 1", 1);
        due(mill, "[f}[i", "m 200 m m 200", "m 1 m m 1", 1);
        due(mill, "f[i", "102 m 105", "0 m 2", 2);
        due(mill, "mn", "109 110", "0 1", 2);
        due(mill, "nz", "203 203", "0 0", 1);
        due(mill, "aA", "97 65", "0 1", 2);
        due(mill, "QR", "204 204", "0 0", 1);
    }

    private static void rulesAddedLater() {
        Glyphmill mill = Check.mill("abab");
        Check.due("glyphs before the rule", 4, mill::glyphs);
        mill.addLigature('a', 'b', 9);
        Check.due("glyphs behind the rule", 2, mill::glyphs);
        Check.due("width behind the rule", 18, () -> mill.widthOf(0));
        mill.setWidth('a', 20);
        Check.due("width behind a character's new width", 18, () -> mill.widthOf(0));
        mill.addLigature(200, 'a', 1);
        Check.due("glyphs behind the second rule", "201 201 201 98", () -> Check.each(mill, mill::glyphOf));
        Check.due("width behind the second rule", 5, () -> mill.widthOf(0));
    }
}
