/** Promises 1 to 10, and what 'Text' says: a test for each sentence, with its boundary cases. */
public final class TextTest extends Check {
    private static final String FORTY_NINE = "ab1 -".repeat(9) + "XY.,";

    public static void main(String[] args) {
        mostCalls();
        mostCharacters();
        kinds();
        neutrals();
        marks();
        mostOpen();
        marksHaveNothing();
        neighbours();
        newObject();
        addReturns();
        addOfAnotherCharacter();
        addIntoFullText();
        addWithoutPlaceInEmbeddings();
        removeLastReturns();
        removeLastOfMarks();
        removeLastOfEmptyText();
        setWidthReturns();
        setWidthOfAnotherCharacter();
        setWidthOutOfRange();
        setLineReturns();
        setLineOutOfRange();
        setBaseReturns();
        addLigatureReturns();
        addLigatureOfAnotherFirst();
        addLigatureOfAnotherSecond();
        addLigatureOfAnotherWidth();
        addLigatureTwice();
        mostLigatures();
        lengthCounts();
        charAtIndices();
        openCounts();
        end();
    }

    // ---- what it is

    private static void mostCalls() {
        says("An object is used for at most 512 calls after it has been made; what later calls answer is free.");
        Mill fewCalls = Mill.of("[fi 1-} AB 22-fin CD aa- ").line(40);
        Mill manyCalls = fewCalls;
        while (manyCalls.calls() < Mill.MOST_CALLS - 1) {
            manyCalls = manyCalls.line(40);
        }
        for (Ask last : new Ask[] {length(), charAt(1), open(), embeddingOf(1), levelOf(8), scriptOf(8), runOf(8), runs(),
            glyphOf(1), glyphStart(1), glyphs(), breaks(), breakAt(1), tooWide(), excess(), lines(), linesByFirstFit(),
            firstOf(1), lineOf(20), widthOf(0), badnessOf(0), demerits(), demeritsByTrying(), linesByTrying(),
            glyphsOf(1), glyphAt(0, 0), rankOf(8), rankByCounting(8), placeOf(8), justifiedWidth(3), hyphenShare(),
            meanBadness(), add('a'), add('?'), removeLast(), setWidth('a', 3), setLine(50), setBase(true),
            addLigature('f', 'i', 3)}) {
            due(manyCalls, last, answer(fewCalls.make(), last));
        }
    }

    // ---- Text

    private static void mostCharacters() {
        says("A text has at most 50 characters, with indices from 0.");
        for (char c : (SHOWN + "[{").toCharArray()) {
            due(Mill.of(FORTY_NINE), add(c), 50);
            due(Mill.of(FORTY_NINE + "a"), add(c), STATE);
        }
        due(Mill.of("[" + "a".repeat(48)), add('}'), 50);
        due(Mill.of("[" + "a".repeat(49)), add('}'), STATE);
        due(Mill.of("[}".repeat(24) + "["), add('}'), 50);
        due(Mill.of("[}".repeat(25)), add('a'), STATE);
        due(Mill.of("[}".repeat(25)), add('['), STATE);
        due(Mill.of("a".repeat(50)).cut(1), add('b'), 50);
        due(Mill.of("a".repeat(50)).cut(1).type("b"), add('c'), STATE);
        due(Mill.of("XY").type("a".repeat(47) + "Z"), charAt(0), 'X');
        due(Mill.of("XY").type("a".repeat(47) + "Z"), charAt(49), 'Z');
        due(Mill.of("XY").type("a".repeat(47) + "Z"), charAt(50), INDEX);
        due(Mill.of("XY").type("a".repeat(47) + "Z"), charAt(-1), INDEX);
    }

    private static void kinds() {
        says("The characters a to z are left letters, A to Z are right letters, and 0 to 9 are digits.");
        for (char c = 'a'; c <= 'z'; c++) {
            dueEach(Mill.of("A" + c), Check::levelOf, "1 0");
        }
        for (char c = 'A'; c <= 'Z'; c++) {
            dueEach(Mill.of("A" + c), Check::levelOf, "1 1");
            dueEach(Mill.of("a" + c), Check::levelOf, "0 1");
        }
        for (char c = '0'; c <= '9'; c++) {
            dueEach(Mill.of("A" + c), Check::levelOf, "1 2");
            dueEach(Mill.of("a" + c), Check::levelOf, "0 0");
        }
        for (char c : new char[] {'a' - 1, 'A' - 1, '0' - 1, '9' + 1}) {
            due(Mill.NEW, add(c), ARGUMENT);
        }
        // the codes behind Z and behind z are those of the marks that begin embeddings
        dueEach(Mill.of("A" + (char) ('Z' + 1) + "A" + (char) ('z' + 1) + "A"), Check::levelOf, "1 m 3 m 3");
    }

    private static void neutrals() {
        says("The space, '-', ',' and '.' are neutral.");
        for (char c : NEUTRALS.toCharArray()) {
            dueEach(Mill.of("A" + c + "A"), Check::levelOf, "1 1 1");
            dueEach(Mill.of("A" + c + "1"), Check::levelOf, "1 1 2");
            dueEach(Mill.of("A" + c + "a"), Check::levelOf, "1 0 0");
            dueEach(Mill.of("a" + c + "a"), Check::levelOf, "0 0 0");
        }
        for (char c : new char[] {' ' - 1, ' ' + 1, ',' - 1, '.' + 1, '_', ';', ':', '\t', '\n', 160, 173}) {
            due(Mill.NEW, add(c), ARGUMENT);
        }
    }

    private static void marks() {
        says("The characters '[', '{' and '}' are marks: '[' begins a left embedding, '{' begins a right embedding, and "
                + "'}' ends the embedding that was begun last and is still open.");
        dueEach(Mill.of("a[b}c{d}e"), Check::embeddingOf, "0 m 2 m 0 m 1 m 0");
        // behind the end of the inner one the outer one is still open, and a second end ends it
        dueEach(Mill.of("[{a}b}c"), Check::embeddingOf, "m m 3 m 2 m 0");
        dueEach(Mill.of("{[a}b}c"), Check::embeddingOf, "m m 2 m 1 m 0");
        dueEach(Mill.of("[{a}[b}c}d"), Check::embeddingOf, "m m 3 m m 4 m 2 m 0");
        dueEach(Mill.of("{}a"), Check::embeddingOf, "m m 0");
        for (char c : "\\]^|~()<>".toCharArray()) {
            due(Mill.of("["), add(c), ARGUMENT);
        }
    }

    private static void mostOpen() {
        says("At most 5 embeddings are open at a time.");
        for (char c : "[{".toCharArray()) {
            due(Mill.of("[{[{"), add(c), 5);
            due(Mill.of("[{[{["), add(c), STATE);
            due(Mill.of("{{{{{"), add(c), STATE);
            due(Mill.of("[a[b[c[d[e"), add(c), STATE);
            due(Mill.of("[[[[[}"), add(c), 7);
            due(Mill.of("[[[[[}{"), add(c), STATE);
            due(Mill.of("[[[[[").cut(1), add(c), 5);
            due(Mill.of("[[[[[}").cut(1), add(c), STATE);
            // more than 5 of them, but not at a time
            due(Mill.of("[}{}".repeat(4)), add(c), 17);
        }
        due(Mill.of("[{[{["), open(), 5);
        due(Mill.of("[{[{["), add('a'), 6);
        due(Mill.of("[{[{["), add('}'), 6);
    }

    private static void marksHaveNothing() {
        says("Marks stand in the text, but have no level, no script, no run, no glyph and no line.");
        Mill mill = Mill.of("[a{b}}");
        due(mill, length(), 6);
        dueEach(mill, Check::charAt, "[ a { b } }");
        for (int i : new int[] {0, 2, 4, 5}) {
            for (Ask ask : new Ask[] {embeddingOf(i), levelOf(i), scriptOf(i), runOf(i), glyphOf(i), glyphStart(i),
                lineOf(i), rankOf(i), rankByCounting(i), placeOf(i), justifiedWidth(i)}) {
                refused(mill, ask, UNSUPPORTED);
            }
        }
        for (String text : new String[] {"[", "{", "[}", "[{[}}{[{"}) {
            due(Mill.of(text), runs(), 0);
            due(Mill.of(text), glyphs(), 0);
            due(Mill.of(text), breaks(), 0);
            due(Mill.of(text), lines(), 0);
        }
        due(Mill.of("a[b"), glyphsOf(0), 2);
        due(Mill.of("a[b"), widthOf(0), 8);
    }

    private static void neighbours() {
        says("Two characters are neighbours if neither of them is a mark and only marks, if anything, stand between "
                + "them.");
        Mill rules = Mill.NEW.rule('f', 'i', 5);
        dueEach(rules.type("fi"), Check::glyphOf, "200 200");
        dueEach(rules.type("f[}i"), Check::glyphOf, "200 m m 200");
        dueEach(rules.type("f[{[{[}}}}}i"), Check::glyphOf, "200 m m m m m m m m m m 200");
        dueEach(rules.type("f[}-[}i"), Check::glyphOf, "102 m m 45 m m 105");
        dueRow(Mill.of("-[{}}b"), Check::breakAt, "5");
        dueRow(Mill.of(" [}b"), Check::breakAt, "3");
        dueRow(Mill.of("[-}b"), Check::breakAt, "3");
        dueRow(Mill.of("-[}"), Check::breakAt, "");
        dueEach(Mill.of("A[}-[}A"), Check::levelOf, "1 m m 1 m m 1");
    }

    // ---- promise 1

    private static void newObject() {
        says("Promise 1: `Glyphmill()`: Creates an empty text that runs from left to right, without ligatures.");
        new Glyphmill().setBase(true);
        Mill.right("[abab").line(20).width('a', 9).width(' ', 9).rule('a', 'b', 9).make().lines();
        due(Mill.NEW, length(), 0);
        due(Mill.NEW, open(), 0);
        due(Mill.NEW, runs(), 0);
        due(Mill.NEW, glyphs(), 0);
        due(Mill.NEW, breaks(), 0);
        due(Mill.NEW, tooWide(), -1);
        due(Mill.NEW, excess(), 0);
        due(Mill.NEW, lines(), 0);
        due(Mill.NEW, linesByFirstFit(), 0);
        due(Mill.NEW, demerits(), 0);
        due(Mill.NEW, demeritsByTrying(), 0);
        due(Mill.NEW, linesByTrying(), 0);
        due(Mill.NEW, setBase(false), false);
        due(Mill.NEW, setBase(true), false);
        due(Mill.NEW, setLine(60), 60);
        due(Mill.NEW, addLigature(200, 'a', 1), ARGUMENT);
        due(Mill.NEW, addLigature('a', 'b', 1), 200);
        dueEach(Mill.of("ab"), Check::glyphOf, "97 98");
        dueEach(Mill.of("ab"), Check::embeddingOf, "0 0");
        for (char c : SHOWN.toCharArray()) {
            due(Mill.NEW, setWidth(c, 4), 4);
        }
        for (int i : new int[] {0, -1, 1, 49, 50, LEAST, MOST}) {
            for (Ask ask : new Ask[] {charAt(i), embeddingOf(i), levelOf(i), scriptOf(i), runOf(i), glyphOf(i),
                glyphStart(i), breakAt(i), firstOf(i), lineOf(i), widthOf(i), badnessOf(i), glyphsOf(i), glyphAt(i, 0),
                glyphAt(0, i), rankOf(i), rankByCounting(i), placeOf(i), justifiedWidth(i)}) {
                due(Mill.NEW, ask, INDEX);
            }
        }
    }

    // ---- promise 2

    private static void addReturns() {
        says("Promise 2: Adds a character at the end of the text. Returns the length of the text after the call.");
        for (char c : (SHOWN + "[{").toCharArray()) {
            due(Mill.NEW, add(c), 1);
            due(Mill.of("b"), add(c), 2);
            due(Mill.of("b" + c), charAt(0), 'b');
            due(Mill.of("b" + c), charAt(1), c);
        }
        due(Mill.of("["), add('}'), 2);
        due(Mill.of("[}"), charAt(1), '}');
        for (int size = 0; size < 50; size++) {
            due(Mill.of("a".repeat(size)), add('b'), size + 1);
            due(Mill.of("a".repeat(size) + "b"), charAt(size), 'b');
        }
    }

    private static void addOfAnotherCharacter() {
        says("Promise 2: add throws `IllegalArgumentException` if it is not a letter, a digit, neutral or a mark");
        for (int code = 0; code <= Character.MAX_VALUE; code++) {
            if ((SHOWN + MARKS).indexOf((char) code) < 0) {
                due(Mill.NEW, add((char) code), ARGUMENT);
            }
        }
        for (char c : new char[] {0, 31, '!', '+', '/', ':', '@', '\\', ']', '`', '|', '~', 127, 128, 'a' + 128,
            'a' + 256, 200, 255, Character.MAX_VALUE}) {
            refused(Mill.of("a[B -"), add(c), ARGUMENT);
        }
        refused(Mill.NEW, add('!'), ARGUMENT);
    }

    private static void addIntoFullText() {
        says("Promise 2: add throws `IllegalStateException` if the text has 50 characters");
        for (char c : "aZ0 -,.[{}".toCharArray()) {
            refused(Mill.of(FORTY_NINE + "b"), add(c), STATE);
        }
        refused(Mill.of("[" + FORTY_NINE), add('}'), STATE);
        refused(Mill.of("{" + FORTY_NINE), add('{'), STATE);
        refused(Mill.of("[}".repeat(25)), add(' '), STATE);
    }

    private static void addWithoutPlaceInEmbeddings() {
        says("Promise 2: add throws `IllegalStateException` if it is '}' and no embedding is open, or it is '[' or '{' and 5 "
                + "embeddings are open");
        refused(Mill.NEW, add('}'), STATE);
        refused(Mill.of("a b"), add('}'), STATE);
        refused(Mill.of("[a}"), add('}'), STATE);
        refused(Mill.of("{[a}}"), add('}'), STATE);
        refused(Mill.of("[").cut(1), add('}'), STATE);
        due(Mill.of("["), add('}'), 2);
        due(Mill.of("{a"), add('}'), 3);
        due(Mill.of("{[a}"), add('}'), 5);
        due(Mill.of("[}").cut(1), add('}'), 2);
        refused(Mill.of("[[[[["), add('['), STATE);
        refused(Mill.of("[[[[["), add('{'), STATE);
        refused(Mill.of("{{{{{"), add('['), STATE);
        refused(Mill.of("{{{{{"), add('{'), STATE);
        due(Mill.of("[[[["), add('['), 5);
        due(Mill.of("[[[["), add('{'), 5);
        due(Mill.of("[[[[[}"), add('{'), 7);
    }

    // ---- promise 3

    private static void removeLastReturns() {
        says("Promise 3: removeLast removes the last character of the text. Returns the character.");
        for (char c : (SHOWN + "[{").toCharArray()) {
            due(Mill.of("b" + c), removeLast(), c);
            due(Mill.of("b" + c).cut(1), length(), 1);
            due(Mill.of("b" + c).cut(1), charAt(1), INDEX);
            due(Mill.of("b" + c).cut(1), charAt(0), 'b');
            due(Mill.of("b" + c).cut(1), removeLast(), 'b');
        }
        due(Mill.of("[}"), removeLast(), '}');
        due(Mill.of(FORTY_NINE + "z"), removeLast(), 'z');
        due(Mill.of(FORTY_NINE + "z").cut(1), length(), 49);
        due(Mill.of(FORTY_NINE + "z").cut(49), removeLast(), 'a');
        // what is left answers as if the character had never been added
        for (String text : new String[] {"ab AB", "A1", "[a}b", "fifi", "a b", "a b "}) {
            String shorter = text.substring(0, text.length() - 1);
            Mill cut = Mill.NEW.rule('f', 'i', 3).type(text).cut(1);
            due("answers behind " + cut, everything(Mill.NEW.rule('f', 'i', 3).type(shorter)), () -> everything(cut));
        }
    }

    private static void removeLastOfMarks() {
        says("Promise 3: '}' ends the embedding that was begun last and is still open: without it that one is open again.");
        due(Mill.of("[{a}").cut(1), open(), 2);
        dueEach(Mill.of("[{a}").cut(1).type("b}c"), Check::embeddingOf, "m m 3 3 m 2");
        due(Mill.of("[{").cut(1), open(), 1);
        dueEach(Mill.of("[{").cut(1).type("b}c"), Check::embeddingOf, "m 2 m 0");
        due(Mill.of("[").cut(1), open(), 0);
        dueEach(Mill.of("[").cut(1).type("b"), Check::embeddingOf, "0");
    }

    private static void removeLastOfEmptyText() {
        says("Promise 3: removeLast throws `NoSuchElementException` if the text is empty");
        refused(Mill.NEW, removeLast(), NO_ELEMENT);
        refused(Mill.of("a").cut(1), removeLast(), NO_ELEMENT);
        refused(Mill.of(FORTY_NINE + "a").cut(50), removeLast(), NO_ELEMENT);
        refused(Mill.of("[").cut(1), removeLast(), NO_ELEMENT);
        refused(Mill.right("").line(20).rule('a', 'b', 3), removeLast(), NO_ELEMENT);
        due(Mill.of("["), removeLast(), '[');
    }

    // ---- promise 4

    private static void setWidthReturns() {
        says("Promise 4: setWidth sets the width of a character (1 to 20). Returns the width before.");
        for (char c : SHOWN.toCharArray()) {
            due(Mill.NEW, setWidth(c, 20), 4);
            due(Mill.NEW, setWidth(c, 1), 4);
            due(Mill.NEW.width(c, 20), setWidth(c, 1), 20);
            due(Mill.NEW.width(c, 1), setWidth(c, 1), 1);
            due(Mill.of("a" + c + "a").line(200).width(c, 20), widthOf(0), c == 'a' ? 60 : 28);
            due(Mill.of("a" + c + "a").line(200).width(c, 1), widthOf(0), c == 'a' ? 3 : 9);
            char other = c == 'b' ? 'c' : 'b';
            due(Mill.NEW.width(c, 20), setWidth(other, 5), 4);
        }
    }

    private static void setWidthOfAnotherCharacter() {
        says("Promise 4: setWidth throws `IllegalArgumentException` if it is not a letter, a digit or neutral");
        for (int code = 0; code <= Character.MAX_VALUE; code++) {
            if (SHOWN.indexOf((char) code) < 0) {
                due(Mill.NEW, setWidth((char) code, 4), ARGUMENT);
            }
        }
        Mill mill = Mill.of("a [B").rule('a', 'b', 5);
        for (char c : new char[] {'[', '{', '}', ']', 0, '!', '+', '/', ':', '@', '`', '|', 127, 128, 200, 255,
            'a' + 128, 'a' + 256, Character.MAX_VALUE}) {
            refused(mill, setWidth(c, 1), ARGUMENT);
            refused(mill, setWidth(c, 20), ARGUMENT);
            refused(mill, setWidth(c, 0), ARGUMENT);
            refused(mill, setWidth(c, 21), ARGUMENT);
        }
    }

    private static void setWidthOutOfRange() {
        says("Promise 4: setWidth throws `IllegalArgumentException` if the width is out of range");
        for (int width : new int[] {0, 21, -1, -4, 22, 24, 256 + 4, LEAST, MOST}) {
            for (char c : "azAZ09 -,.".toCharArray()) {
                due(Mill.NEW, setWidth(c, width), ARGUMENT);
            }
            refused(Mill.of("a B"), setWidth('a', width), ARGUMENT);
            refused(Mill.of("a B").width(' ', 7), setWidth(' ', width), ARGUMENT);
            refused(Mill.NEW, setWidth('Z', width), ARGUMENT);
        }
    }

    // ---- promise 5

    private static void setLineReturns() {
        says("Promise 5: Sets the line width (10 to 200), which is 60 at first. Returns the line width before.");
        due(Mill.NEW, setLine(10), 60);
        due(Mill.NEW, setLine(200), 60);
        due(Mill.NEW.line(10), setLine(11), 10);
        due(Mill.NEW.line(200), setLine(199), 200);
        due(Mill.NEW.line(10), setLine(10), 10);
        for (int width = 10; width <= 200; width++) {
            due(Mill.NEW.line(width), setLine(60), width);
        }
        due(Mill.of("a".repeat(15)), tooWide(), -1);
        due(Mill.of("a".repeat(16)), excess(), 4);
        due(Mill.of("a".repeat(16)).line(10), excess(), 54);
        due(Mill.of("a".repeat(50)).line(200), tooWide(), -1);
        due(Mill.of("a".repeat(50)).line(199), excess(), 1);
    }

    private static void setLineOutOfRange() {
        says("Promise 5: setLine throws `IllegalArgumentException` if the width is out of range");
        for (int width : new int[] {9, 201, 0, -1, -10, -60, 256 + 60, 65536 + 60, LEAST, MOST}) {
            refused(Mill.NEW, setLine(width), ARGUMENT);
            refused(Mill.of("aa bb cc").line(10), setLine(width), ARGUMENT);
            refused(Mill.of("aa bb cc").line(200), setLine(width), ARGUMENT);
        }
    }

    // ---- promise 6

    private static void setBaseReturns() {
        says("Promise 6: Sets whether the text runs from right to left, which it does not at first. Returns whether it did before.");
        due(Mill.NEW, setBase(false), false);
        due(Mill.NEW, setBase(true), false);
        due(Mill.NEW.base(true), setBase(true), true);
        due(Mill.NEW.base(true), setBase(false), true);
        due(Mill.NEW.base(true).base(false), setBase(false), false);
        due(Mill.NEW.base(true).base(true), setBase(true), true);
        dueEach(Mill.of("ab [c"), Check::embeddingOf, "0 0 0 m 2");
        dueEach(Mill.of("ab [c").base(true), Check::embeddingOf, "1 1 1 m 2");
        dueEach(Mill.of("ab [c").base(true).base(false), Check::embeddingOf, "0 0 0 m 2");
        dueEach(Mill.of("ab {c").base(true), Check::embeddingOf, "1 1 1 m 3");
    }

    // ---- promise 7

    private static void addLigatureReturns() {
        says("Promise 7: addLigature adds a rule for a ligature (of the width 1 to 40). Returns the number of the ligature.");
        for (char c : LETTERS.toCharArray()) {
            due(Mill.NEW, addLigature(c, 'b', 1), 200);
            due(Mill.NEW, addLigature('b', c, 40), 200);
        }
        Mill mill = Mill.NEW.rule('f', 'i', 1).rule('A', 'B', 40);
        due(mill, addLigature(200, 'l', 2), 202);
        due(mill, addLigature(201, 'l', 2), 202);
        due(mill.rule(200, 'l', 2), addLigature(202, 'z', 2), 203);
        due(mill.type("fi"), widthOf(0), 1);
        due(mill.type("AB"), widthOf(0), 40);
        dueEach(mill.rule(200, 'l', 2).type("fil AB"), Check::glyphOf, "202 202 202 32 201 201");
    }

    private static void addLigatureOfAnotherFirst() {
        says("Promise 7: addLigature throws `IllegalArgumentException` if first is neither the code of a letter nor the number of a "
                + "ligature");
        for (int first = -300; first <= 600; first++) {
            boolean isLetter = first >= 'a' && first <= 'z' || first >= 'A' && first <= 'Z';
            due(Mill.NEW, addLigature(first, 'b', 3), isLetter ? 200 : ARGUMENT);
        }
        for (int first : new int[] {199, 200, '@', '[', '`', '{', '0', '9', ' ', '-', '}', 0, -1, 'f' + 256, 'f' + 65536,
            'f' - 65536, -200, LEAST, MOST}) {
            refused(Mill.of("fi"), addLigature(first, 'i', 5), ARGUMENT);
        }
        Mill one = Mill.of("fil").rule('f', 'i', 5);
        refused(one, addLigature(199, 'l', 5), ARGUMENT);
        due(one, addLigature(200, 'l', 5), 201);
        refused(one, addLigature(201, 'l', 5), ARGUMENT);
        refused(one, addLigature(200 + 65536, 'l', 5), ARGUMENT);
        due(one.rule(200, 'l', 5), addLigature(201, 'l', 5), 202);
        refused(one.rule(200, 'l', 5), addLigature(202, 'l', 5), ARGUMENT);
        due(nineteen(), addLigature(218, 'l', 5), 219);
        refused(nineteen(), addLigature(219, 'l', 5), ARGUMENT);
    }

    private static void addLigatureOfAnotherSecond() {
        says("Promise 7: addLigature throws `IllegalArgumentException` if second is not a letter");
        for (int code = 0; code <= Character.MAX_VALUE; code++) {
            if (LETTERS.indexOf((char) code) < 0) {
                due(Mill.NEW, addLigature('f', (char) code, 5), ARGUMENT);
            }
        }
        for (char second : new char[] {'@', '[', '`', '{', '0', '9', ' ', '-', ',', '.', '}', 0, 200, 'i' + 256,
            Character.MAX_VALUE}) {
            refused(Mill.of("fi").rule('f', 'i', 5), addLigature('f', second, 5), ARGUMENT);
            refused(Mill.of("fi").rule('f', 'i', 5), addLigature(200, second, 5), ARGUMENT);
        }
    }

    private static void addLigatureOfAnotherWidth() {
        says("Promise 7: addLigature throws `IllegalArgumentException` if the width is out of range");
        for (int width : new int[] {0, 41, -1, -5, 42, 256 + 5, LEAST, MOST}) {
            refused(Mill.of("fil"), addLigature('f', 'i', width), ARGUMENT);
            refused(Mill.of("fil").rule('f', 'i', 5), addLigature(200, 'l', width), ARGUMENT);
        }
        for (int width = 1; width <= 40; width++) {
            due(Mill.of("fi").rule('f', 'i', width), widthOf(0), width);
        }
    }

    private static void addLigatureTwice() {
        says("Promise 7: addLigature throws `IllegalStateException` if there is a rule for both already");
        Mill mill = Mill.of("abab").rule('a', 'b', 5);
        refused(mill, addLigature('a', 'b', 5), STATE);
        refused(mill, addLigature('a', 'b', 6), STATE);
        due(mill, addLigature('b', 'a', 5), 201);
        due(mill, addLigature('a', 'a', 5), 201);
        due(mill, addLigature('b', 'b', 5), 201);
        due(mill, addLigature('a', 'B', 5), 201);
        due(mill, addLigature('A', 'b', 5), 201);
        due(mill, addLigature(200, 'b', 5), 201);
        refused(mill.rule(200, 'b', 5), addLigature(200, 'b', 7), STATE);
        refused(mill.rule(200, 'b', 5), addLigature('a', 'b', 7), STATE);
        due(mill.rule(200, 'b', 5), addLigature(201, 'b', 5), 202);
    }

    /** The rules for A and the letters from A on. */
    private static Mill nineteen() {
        Mill mill = Mill.of("AABACATAU");
        for (int i = 0; i < 19; i++) {
            mill = mill.rule('A', (char) ('A' + i), i + 1);
        }
        return mill;
    }

    private static void mostLigatures() {
        says("Promise 7: addLigature throws `IllegalStateException` if there are 20 ligatures");
        Mill mill = Mill.NEW;
        for (int i = 0; i < 20; i++) {
            due(mill, addLigature('a', (char) ('a' + i), 7), 200 + i);
            mill = mill.rule('a', (char) ('a' + i), 7);
        }
        due(nineteen(), addLigature('A', 'T', 40), 219);
        Mill twenty = nineteen().rule('A', 'T', 40);
        refused(twenty, addLigature('A', 'U', 7), STATE);
        refused(twenty, addLigature('z', 'u', 7), STATE);
        refused(twenty, addLigature(200, 'u', 7), STATE);
        refused(twenty, addLigature(219, 'u', 7), STATE);
        dueEach(twenty, Check::glyphOf, "200 200 66 202 202 219 219 65 85");
    }

    // ---- promises 8 to 10

    private static void lengthCounts() {
        says("Promise 8: length returns the number of characters, marks included.");
        due(Mill.NEW, length(), 0);
        due(Mill.of("a"), length(), 1);
        due(Mill.of("["), length(), 1);
        due(Mill.of("a[B{ 1}"), length(), 7);
        due(Mill.of("   "), length(), 3);
        due(Mill.of(FORTY_NINE), length(), 49);
        due(Mill.of("[}".repeat(25)), length(), 50);
        due(Mill.of(FORTY_NINE + "a").cut(50), length(), 0);
        due(Mill.of("fi").rule('f', 'i', 3), length(), 2);
    }

    private static void charAtIndices() {
        says("Promise 9: charAt throws `IndexOutOfBoundsException` if there is no such index");
        dueEach(Mill.of("a[B{ 1}"), Check::charAt, "a [ B {   1 }");
        for (int index : new int[] {-1, 7, 8, 49, 50, LEAST, MOST}) {
            refused(Mill.of("a[B{ 1}"), charAt(index), INDEX);
            refused(Mill.NEW, charAt(index), INDEX);
        }
        refused(Mill.NEW, charAt(0), INDEX);
        refused(Mill.of("ab").cut(1), charAt(1), INDEX);
        refused(Mill.of(FORTY_NINE + "Z"), charAt(50), INDEX);
        refused(Mill.of(FORTY_NINE + "Z"), charAt(-1), INDEX);
        due(Mill.of(FORTY_NINE + "Z"), charAt(49), 'Z');
        due(Mill.of(FORTY_NINE + "Z"), charAt(0), 'a');
    }

    private static void openCounts() {
        says("Promise 10: Returns the number of embeddings that are open at the end of the text.");
        due(Mill.NEW, open(), 0);
        due(Mill.of("a"), open(), 0);
        due(Mill.of("["), open(), 1);
        due(Mill.of("{a"), open(), 1);
        due(Mill.of("[}"), open(), 0);
        due(Mill.of("[{}"), open(), 1);
        due(Mill.of("[{}}"), open(), 0);
        due(Mill.of("[{[{["), open(), 5);
        due(Mill.of("[{[{[}"), open(), 4);
        due(Mill.of("[[[[[}}}}}"), open(), 0);
        due(Mill.of("[}".repeat(25)), open(), 0);
    }
}
