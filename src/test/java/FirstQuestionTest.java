import java.util.HashMap;
import java.util.Map;

/**
 * Every question is asked as the first one behind each kind of change, of an object that was asked before and of one
 * that was not: no answer may depend on what was asked before.
 */
public final class FirstQuestionTest {
    private interface Ask {
        Object ask(Glyphmill mill);
    }

    private record Question(String name, Ask ask) {
    }

    private static final Question[] QUESTIONS = {
        new Question("length", Glyphmill::length),
        new Question("open", Glyphmill::open),
        new Question("runs", Glyphmill::runs),
        new Question("glyphs", Glyphmill::glyphs),
        new Question("breaks", Glyphmill::breaks),
        new Question("tooWide", Glyphmill::tooWide),
        new Question("excess", Glyphmill::excess),
        new Question("lines", Glyphmill::lines),
        new Question("linesByFirstFit", Glyphmill::linesByFirstFit),
        new Question("demerits", Glyphmill::demerits),
        new Question("demeritsByTrying", Glyphmill::demeritsByTrying),
        new Question("linesByTrying", Glyphmill::linesByTrying),
        new Question("hyphenShare", Glyphmill::hyphenShare),
        new Question("meanBadness", Glyphmill::meanBadness),
        new Question("charAt 7", mill -> mill.charAt(7)),
        new Question("embeddingOf 7", mill -> mill.embeddingOf(7)),
        new Question("levelOf 7", mill -> mill.levelOf(7)),
        new Question("scriptOf 7", mill -> mill.scriptOf(7)),
        new Question("runOf 7", mill -> mill.runOf(7)),
        new Question("glyphOf 7", mill -> mill.glyphOf(7)),
        new Question("glyphStart 7", mill -> mill.glyphStart(7)),
        new Question("lineOf 7", mill -> mill.lineOf(7)),
        new Question("rankOf 7", mill -> mill.rankOf(7)),
        new Question("rankByCounting 7", mill -> mill.rankByCounting(7)),
        new Question("placeOf 7", mill -> mill.placeOf(7)),
        new Question("justifiedWidth 3", mill -> mill.justifiedWidth(3)),
        new Question("justifiedWidth 7", mill -> mill.justifiedWidth(7)),
        new Question("breakAt 1", mill -> mill.breakAt(1)),
        new Question("firstOf 1", mill -> mill.firstOf(1)),
        new Question("widthOf 1", mill -> mill.widthOf(1)),
        new Question("badnessOf 0", mill -> mill.badnessOf(0)),
        new Question("glyphsOf 1", mill -> mill.glyphsOf(1)),
        new Question("glyphAt 1 0", mill -> mill.glyphAt(1, 0)),
    };

    private static final String[] CHANGES = {
        "none", "add", "add a wide word", "removeLast", "setWidth", "setLine", "setBase", "addLigature",
    };

    public static void main(String[] args) {
        for (String change : CHANGES) {
            Map<String, String> want = wanted(change);
            for (Question question : QUESTIONS) {
                String what = question.name + " first behind " + change;
                Glyphmill fresh = prepared();
                change(fresh, change);
                Check.due(what, want.get(question.name), () -> question.ask.ask(fresh));
                Glyphmill asked = prepared();
                Check.everything(asked);
                change(asked, change);
                Check.due(what + ", asked before", want.get(question.name), () -> question.ask.ask(asked));
            }
        }
        for (Question question : QUESTIONS) {
            String want = Check.answer(() -> question.ask.ask(new Glyphmill()));
            Glyphmill mill = prepared();
            Check.everything(mill);
            for (int i = mill.length(); i > 0; i--) {
                mill.removeLast();
            }
            Check.due(question.name + " of a text that is empty again", want, () -> question.ask.ask(mill));
        }
        Check.end();
    }

    /** The answers of the naive telling, by the questions. */
    private static Map<String, String> wanted(String change) {
        Naive naive = new Naive();
        naive.lineWidth = 30;
        naive.rules.add(new int[] {'f', 'i', 5});
        naive.text = TEXT;
        change(naive, change);
        Map<String, String> want = new HashMap<>();
        for (String line : naive.everything().split("\n")) {
            int sign = line.indexOf(" = ");
            want.put(line.substring(0, sign), line.substring(sign + 3));
        }
        return want;
    }

    private static final String TEXT = "[a b-}fiAB 12 fin- Cde";

    private static Glyphmill prepared() {
        Glyphmill mill = new Glyphmill();
        mill.setLine(30);
        mill.addLigature('f', 'i', 5);
        Check.type(mill, TEXT);
        return mill;
    }

    private static void change(Glyphmill mill, String change) {
        switch (change) {
            case "add" -> mill.add('{');
            case "add a wide word" -> Check.type(mill, "abcdefgh");
            case "removeLast" -> mill.removeLast();
            case "setWidth" -> mill.setWidth('A', 7);
            case "setLine" -> mill.setLine(40);
            case "setBase" -> mill.setBase(true);
            case "addLigature" -> mill.addLigature('A', 'B', 4);
            default -> { }
        }
    }

    private static void change(Naive naive, String change) {
        switch (change) {
            case "add" -> naive.text += "{";
            case "add a wide word" -> naive.text += "abcdefgh";
            case "removeLast" -> naive.text = TEXT.substring(0, TEXT.length() - 1);
            case "setWidth" -> naive.widths.put('A', 7);
            case "setLine" -> naive.lineWidth = 40;
            case "setBase" -> naive.base = 1;
            case "addLigature" -> naive.rules.add(new int[] {'A', 'B', 4});
            default -> { }
        }
    }
}
