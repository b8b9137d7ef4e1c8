import java.util.Map;

/**
 * Every question is asked as the first one behind each kind of change, of an object that was asked before and of one
 * that was not, and of a text that takes the place of another one that was asked: no answer may depend on what was
 * asked before.
 */
public final class FirstQuestionTest extends Check {
    private static final String TEXT = "[a b-}fiAB 12 fin- Cde";

    private static final Ask[] QUESTIONS = {
        length(), open(), runs(), glyphs(), breaks(), tooWide(), excess(), lines(), linesByFirstFit(), demerits(),
        demeritsByTrying(), linesByTrying(), hyphenShare(), meanBadness(), charAt(7), embeddingOf(7), levelOf(7),
        scriptOf(7), runOf(7), glyphOf(7), glyphStart(7), lineOf(7), rankOf(7), rankByCounting(7), placeOf(7),
        justifiedWidth(3), justifiedWidth(7), breakAt(1), firstOf(1), widthOf(1), badnessOf(0), glyphsOf(1), glyphAt(1, 0),
    };

    private static final String[] CHANGES = {
        "none", "add", "add a wide word", "removeLast", "setWidth", "setLine", "setBase", "addLigature",
    };

    /** With the line width 10: without lines, with lines that are not possible, and with one line or several. */
    private static final String[] TEXTS = {
        "", " ", "   ", "[ } ", "a", "a ", " a", "  aa", "  aa b c", "aa bb", "a b c", "aa-b- c", "aaaa", "aa aaaa b",
        "  aaaa", "{AB 12} c", "fi Afi", "1 [A", "- -- -", "[a {b 1}",
    };

    public static void main(String[] args) {
        Mill fresh = Mill.NEW.line(30).rule('f', 'i', 5).type(TEXT);
        for (String change : CHANGES) {
            says("the first question behind " + change);
            Map<String, String> want = wanted(change);
            Mill asked = changed(fresh.then(QUESTIONS), change);
            for (Ask question : QUESTIONS) {
                due(changed(fresh, change), question, want.get(question.name()));
                due(asked, question, want.get(question.name()));
            }
        }
        says("the first question of a text that is empty again");
        Mill again = Mill.of(TEXT).then(QUESTIONS[0], glyphs(), lines(), placeOf(7)).cut(TEXT.length());
        for (Ask question : QUESTIONS) {
            due(again, question, answer(Mill.NEW.make(), question));
        }
        for (String before : TEXTS) {
            for (String text : TEXTS) {
                anotherText(before, text);
            }
        }
        end();
    }

    /** The second text is typed where the first one was asked and removed. */
    private static void anotherText(String before, String text) {
        says("all questions of \"" + text + "\" behind \"" + before + "\"");
        Mill asked = Mill.NEW.line(10).rule('f', 'i', 5).type(before).then(glyphs(), quiet(linesByTrying()));
        Naive naive = new Naive();
        naive.lineWidth = 10;
        naive.rules.add(new int[] {'f', 'i', 5});
        naive.text = text;
        String want = naive.everything();
        Mill mill = asked.cut(before.length()).type(text);
        due("all answers (got but due) of " + mill, "none", () -> firstDifference(everything(mill), want));
    }

    private static Mill changed(Mill mill, String change) {
        return switch (change) {
            case "add" -> mill.type("{");
            case "add a wide word" -> mill.type("abcdefgh");
            case "removeLast" -> mill.cut(1);
            case "setWidth" -> mill.width('A', 7);
            case "setLine" -> mill.line(40);
            case "setBase" -> mill.base(true);
            case "addLigature" -> mill.rule('A', 'B', 4);
            default -> mill;
        };
    }

    /** The answers of the naive telling, by the questions. */
    private static Map<String, String> wanted(String change) {
        Naive naive = new Naive();
        naive.lineWidth = 30;
        naive.rules.add(new int[] {'f', 'i', 5});
        naive.text = TEXT;
        switch (change) {
            case "add" -> naive.text += "{";
            case "add a wide word" -> naive.text += "abcdefgh";
            case "removeLast" -> naive.text = TEXT.substring(0, TEXT.length() - 1);
            case "setWidth" -> naive.widths.put('A', 7);
            case "setLine" -> naive.lineWidth = 40;
            case "setBase" -> naive.base = 1;
            case "addLigature" -> naive.rules.add(new int[] {'A', 'B', 4});
            default -> { }
        }
        return Naive.byQuestion(naive.everything());
    }
}
