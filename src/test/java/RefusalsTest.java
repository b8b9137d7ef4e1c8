/** What 'Exceptions' says of all promises: a refused call changes nothing, and which of several exceptions is thrown. */
public final class RefusalsTest extends Check {
    /** An object with something of everything, whose lines are possible. */
    private static final Mill RICH = Mill.right("[fi- 1} AB aa  {fi 22-}c ").line(24).width('c', 9).width(' ', 3)
            .rule('f', 'i', 5).rule('A', 'B', 40).rule(200, 'l', 1).line(41);
    private static final Mill TOO_WIDE = RICH.line(10);
    private static final Mill BLANK = Mill.right(" [ } ").line(24).width('c', 9).rule('f', 'i', 5);
    private static final Mill FULL = RICH.type("-a".repeat(12) + "b");

    public static void main(String[] args) {
        changesNothing();
        listedFirstByAdd();
        listedFirstByAddLigature();
        listedFirstOfLines("Promise 25: firstOf", Check::firstOf);
        listedFirstOfLines("Promise 27: widthOf", Check::widthOf);
        listedFirstOfLines("Promise 28: badnessOf", Check::badnessOf);
        listedFirstOfLines("Promise 32: glyphsOf", Check::glyphsOf);
        listedFirstOfLines("Promise 33: glyphAt", line -> glyphAt(line, 0));
        listedFirstOfLines("Promise 33: glyphAt (no such rank)", line -> glyphAt(line, -1));
        listedFirstOfLines("Promise 33: glyphAt (no such rank)", line -> glyphAt(line, MOST));
        listedFirstOfIndices("Promise 26: lineOf", Check::lineOf);
        listedFirstOfIndices("Promise 34: rankOf", Check::rankOf);
        listedFirstOfIndices("Promise 35: rankByCounting", Check::rankByCounting);
        listedFirstOfIndices("Promise 36: placeOf", Check::placeOf);
        listedFirstOfIndices("Promise 37: justifiedWidth", Check::justifiedWidth);
        listedFirstByTrying("Promise 30: demeritsByTrying", demeritsByTrying());
        listedFirstByTrying("Promise 31: linesByTrying", linesByTrying());
        end();
    }

    private static void changesNothing() {
        says("A method that throws an exception changes nothing.");
        due(RICH, tooWide(), -1);
        due(TOO_WIDE, tooWide(), 8);
        due(BLANK, lines(), 0);
        due(FULL, length(), 50);
        for (Mill mill : new Mill[] {RICH, TOO_WIDE, BLANK, FULL, Mill.NEW}) {
            for (Ask ask : new Ask[] {add('!'), add((char) 200), setWidth('[', 5), setWidth('a', 0), setWidth('a', 21),
                setWidth((char) 200, 5), setLine(9), setLine(201), addLigature('1', 'a', 5), addLigature('a', '1', 5),
                addLigature('a', 'b', 0), addLigature('a', 'b', 41), addLigature(203, 'b', 5)}) {
                refused(mill, ask, ARGUMENT);
            }
            for (Ask ask : new Ask[] {charAt(-1), embeddingOf(-1), levelOf(-1), scriptOf(-1), runOf(-1), glyphOf(-1),
                glyphStart(-1), breakAt(-1), lineOf(-1), rankOf(-1), rankByCounting(-1), placeOf(-1), justifiedWidth(-1),
                charAt(50), breakAt(50), placeOf(50)}) {
                refused(mill, ask, INDEX);
            }
        }
        for (Ask ask : new Ask[] {addLigature('f', 'i', 7), addLigature(200, 'l', 7)}) {
            refused(RICH, ask, STATE);
            refused(TOO_WIDE, ask, STATE);
            refused(FULL, ask, STATE);
        }
        for (Ask ask : new Ask[] {add('a'), add(' '), add('['), add('}')}) {
            refused(FULL, ask, STATE);
        }
        refused(RICH, add('}'), STATE);
        refused(RICH.type("[{[{["), add('['), STATE);
        refused(RICH.type("[{[{["), add('{'), STATE);
        refused(Mill.NEW, removeLast(), NO_ELEMENT);
        refused(RICH.cut(25), removeLast(), NO_ELEMENT);
        for (Ask ask : new Ask[] {embeddingOf(0), levelOf(0), scriptOf(0), runOf(0), glyphOf(0), glyphStart(0), lineOf(0),
            rankOf(0), rankByCounting(0), placeOf(0), justifiedWidth(0)}) {
            refused(RICH, ask, UNSUPPORTED);
            refused(TOO_WIDE, ask, UNSUPPORTED);
        }
        for (Ask ask : new Ask[] {lines(), linesByFirstFit(), firstOf(0), lineOf(1), widthOf(0), badnessOf(0), demerits(),
            demeritsByTrying(), linesByTrying(), glyphsOf(0), glyphAt(0, 0), rankOf(1), rankByCounting(1), placeOf(1),
            justifiedWidth(1), hyphenShare(), meanBadness()}) {
            refused(TOO_WIDE, ask, STATE);
        }
        for (Ask ask : new Ask[] {firstOf(50), widthOf(50), badnessOf(50), glyphsOf(50), glyphAt(50, 0), glyphAt(0, 50)}) {
            refused(RICH, ask, INDEX);
            refused(BLANK, ask, INDEX);
        }
        for (Ask ask : new Ask[] {lineOf(0), rankOf(0), rankByCounting(0), placeOf(0), justifiedWidth(0)}) {
            refused(BLANK, ask, NO_ELEMENT);
        }
        for (Ask ask : new Ask[] {rankOf(24), rankByCounting(24), placeOf(24), justifiedWidth(24)}) {
            refused(RICH, ask, NO_ELEMENT);
        }
        refused(RICH.type("a b c d e"), demeritsByTrying(), UNSUPPORTED);
        refused(RICH.type("a b c d e"), linesByTrying(), UNSUPPORTED);
        refused(BLANK, hyphenShare(), ARITHMETIC);
        refused(BLANK, meanBadness(), ARITHMETIC);
    }

    private static void saysOf(String promise) {
        says("If several exceptions apply, the one that is listed first is thrown. " + promise);
    }

    private static void listedFirstByAdd() {
        saysOf("Promise 2: add");
        for (char c : new char[] {'!', ']', '@', 0, 255, Character.MAX_VALUE}) {
            refused(FULL, add(c), ARGUMENT);
            refused(Mill.of("[[[[[" + "a".repeat(45)), add(c), ARGUMENT);
            refused(Mill.of("[[[[["), add(c), ARGUMENT);
        }
    }

    private static void listedFirstByAddLigature() {
        saysOf("Promise 7: addLigature");
        // a rule that there is, with a width that is out of range
        refused(RICH, addLigature('f', 'i', 0), ARGUMENT);
        refused(RICH, addLigature('f', 'i', 41), ARGUMENT);
        refused(RICH, addLigature(200, 'l', LEAST), ARGUMENT);
        // 20 ligatures, with each wrong argument
        Mill twenty = Mill.of("AABACATAU");
        for (int i = 0; i < 20; i++) {
            twenty = twenty.rule('A', (char) ('A' + i), i + 1);
        }
        refused(twenty, addLigature('A', 'Z', 7), STATE);
        refused(twenty, addLigature('A', 'B', 7), STATE);
        refused(twenty, addLigature('A', 'B', 41), ARGUMENT);
        refused(twenty, addLigature('A', 'Z', 0), ARGUMENT);
        refused(twenty, addLigature('A', '1', 7), ARGUMENT);
        refused(twenty, addLigature('1', 'A', 7), ARGUMENT);
        refused(twenty, addLigature(199, 'A', 7), ARGUMENT);
        refused(twenty, addLigature(220, 'A', 7), ARGUMENT);
    }

    /** No such line, where lines are not possible. */
    private static void listedFirstOfLines(String promise, OfIndex question) {
        saysOf(promise);
        for (int line : new int[] {-1, 0, 1, 2, 8, 50, LEAST, MOST}) {
            refused(Mill.of("aa [aaa ").line(11), question.of(line), STATE);
            refused(TOO_WIDE, question.of(line), STATE);
        }
    }

    private static void listedFirstOfIndices(String promise, OfIndex question) {
        saysOf(promise);
        Mill tooWide = Mill.of("aa [aaa ").line(11);
        // no such index, a mark, and a space behind the last other character, where lines are not possible
        for (int i : new int[] {-1, 8, 50, LEAST, MOST}) {
            refused(tooWide, question.of(i), INDEX);
        }
        refused(tooWide, question.of(3), UNSUPPORTED);
        refused(tooWide, question.of(2), STATE);
        refused(tooWide, question.of(7), STATE);
        // no such index, and a mark, where there are no lines
        for (int i : new int[] {-1, 5, 50, LEAST, MOST}) {
            refused(BLANK, question.of(i), INDEX);
        }
        refused(BLANK, question.of(1), UNSUPPORTED);
        refused(BLANK, question.of(3), UNSUPPORTED);
        refused(BLANK, question.of(4), NO_ELEMENT);
    }

    /** More than 9 break places, where lines are not possible. */
    private static void listedFirstByTrying(String promise, Ask ask) {
        saysOf(promise);
        Mill ten = Mill.of("a a a a a a a a a a aaa");
        refused(ten.line(12), ask, UNSUPPORTED);
        refused(ten.line(11), ask, STATE);
    }
}
