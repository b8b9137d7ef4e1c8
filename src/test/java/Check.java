import java.util.ArrayList;
import java.util.List;

/** What the tests share: the calls with their names, comparing answers, and telling what was wrong. */
class Check {
    static final String INDEX = "IndexOutOfBoundsException";
    static final String UNSUPPORTED = "UnsupportedOperationException";
    static final String STATE = "IllegalStateException";
    static final String ARGUMENT = "IllegalArgumentException";
    static final String NO_ELEMENT = "NoSuchElementException";
    static final String ARITHMETIC = "ArithmeticException";

    static final String LETTERS = "abcdefghijklmnopqrstuvwxyzABCDEFGHIJKLMNOPQRSTUVWXYZ";
    static final String NEUTRALS = " -,.";
    static final String SHOWN = LETTERS + "0123456789" + NEUTRALS;
    static final String MARKS = "[{}";
    static final int LEAST = Integer.MIN_VALUE;
    static final int MOST = Integer.MAX_VALUE;

    private static String sentence = "";
    private static int asked = 0;
    private static int wrong = 0;
    private static int askedAhead = 0;

    interface Call {
        Object make();
    }

    interface OfIndex {
        Ask of(int index);
    }

    // ---- telling what is wrong

    /** The sentence of the document that the answers from here on are about. */
    static void says(String words) {
        endSentence();
        sentence = words;
        askedAhead = asked;
    }

    private static void endSentence() {
        if (!sentence.isEmpty() && asked == askedAhead) {
            wrong++;
            System.out.println("no answer was looked at for: " + sentence);
        }
    }

    private static void compare(Object where, Object what, String got, Object want) {
        asked++;
        if (!got.equals(String.valueOf(want))) {
            wrong++;
            System.out.println("\"" + sentence + "\" " + where + ": " + what + " answered " + got + ", due is " + want);
        }
    }

    /** The answer as a text, or the name of the exception that the call throws. */
    static String answer(Call call) {
        try {
            return String.valueOf(call.make());
        } catch (RuntimeException e) {
            return e.getClass().getSimpleName();
        }
    }

    static String answer(Glyphmill mill, Ask ask) {
        return answer(() -> ask.put(mill));
    }

    /** The object, or null if a call that makes it is refused: then that is told as wrong. */
    private static Glyphmill made(Mill mill) {
        try {
            return mill.make();
        } catch (RuntimeException e) {
            compare(mill, "making it", e.getClass().getSimpleName(), "no exception");
            return null;
        }
    }

    /** The same call, for the making of an object: an exception is an answer, too. */
    static Ask quiet(Ask ask) {
        return new Ask(ask.name(), m -> answer(m, ask));
    }

    static void due(String what, Object want, Call call) {
        compare("", what, answer(call), want);
    }

    static void due(Mill mill, Ask ask, Object want) {
        Glyphmill made = made(mill);
        if (made != null) {
            compare(mill, ask, answer(made, ask), want);
        }
    }

    /** The answers for all indices of a text: m stands for a mark, - for what has no place and no line. */
    static void dueEach(Mill mill, OfIndex question, String want) {
        Glyphmill made = made(mill);
        if (made == null) {
            return;
        }
        StringBuilder all = new StringBuilder();
        for (int i = 0; i < made.length(); i++) {
            String one = answer(made, question.of(i));
            all.append(i > 0 ? " " : "").append(one.equals(UNSUPPORTED) ? "m" : one.equals(NO_ELEMENT) ? "-" : one);
        }
        compare(mill, question.of(0) + " and so on", all.toString(), want);
    }

    /** The answers for the first numbers from 0 on: as many as the wanted text has words, and no more. */
    static void dueRow(Mill mill, OfIndex question, String want) {
        Glyphmill made = made(mill);
        if (made == null) {
            return;
        }
        int size = want.isEmpty() ? 0 : want.split(" ").length;
        StringBuilder all = new StringBuilder();
        for (int i = 0; i < size; i++) {
            all.append(i > 0 ? " " : "").append(answer(made, question.of(i)));
        }
        compare(mill, question.of(0) + " and so on", all.toString(), want);
        for (int i : new int[] {-1, size, size + 1, LEAST, MOST}) {
            compare(mill, question.of(i), answer(made, question.of(i)), INDEX);
        }
    }

    /** A call that throws this exception and changes nothing, asked by all other calls. */
    static void refused(Mill mill, Ask ask, String exception) {
        due(mill, ask, exception);
        if (made(mill) == null) {
            return;
        }
        String before = everything(mill) + probes(mill);
        String behind = everything(mill.then(quiet(ask))) + probes(mill.then(quiet(ask)));
        compare(mill, "what changed behind " + ask, firstDifference(behind, before), "none");
    }

    static void end() {
        endSentence();
        System.out.println(asked + " answers looked at, " + wrong + " wrong");
        if (asked == 0 || wrong > 0) {
            System.exit(1);
        }
    }

    // ---- all answers of an object

    /** The answers to each question that can be asked of an object, with a few indices and ranks outside. */
    static String everything(Mill mill) {
        return answers(mill, questions(mill));
    }

    static List<Ask> questions(Mill mill) {
        Glyphmill made = mill.make();
        List<Ask> all = new ArrayList<>(List.of(length(), open(), runs(), glyphs(), breaks(), tooWide(), excess(),
                lines(), linesByFirstFit(), demerits(), demeritsByTrying(), linesByTrying(), hyphenShare(),
                meanBadness()));
        for (int i = -1; i <= made.length(); i++) {
            all.addAll(List.of(charAt(i), embeddingOf(i), levelOf(i), scriptOf(i), runOf(i), glyphOf(i),
                    glyphStart(i), lineOf(i), rankOf(i), rankByCounting(i), placeOf(i), justifiedWidth(i)));
        }
        for (int r = -1; r <= made.breaks(); r++) {
            all.add(breakAt(r));
        }
        int lines = made.tooWide() == -1 ? made.lines() : 1;
        for (int l = -1; l <= lines; l++) {
            all.addAll(List.of(firstOf(l), widthOf(l), badnessOf(l), glyphsOf(l)));
            String size = answer(made, glyphsOf(l));
            int ranks = Character.isDigit(size.charAt(0)) ? Integer.parseInt(size) : 0;
            for (int r = -1; r <= ranks; r++) {
                all.add(glyphAt(l, r));
            }
        }
        return all;
    }

    /** What changing calls tell of an object: the widths, the line width, the base level, the rules and the text. */
    static String probes(Mill mill) {
        List<Ask> all = new ArrayList<>(List.of(setLine(10), setBase(true)));
        for (char c : SHOWN.toCharArray()) {
            all.add(setWidth(c, 1));
        }
        all.addAll(List.of(add('}'), add('['), addLigature('q', 'Q', 3), addLigature('a', 'b', 3),
                addLigature('f', 'i', 3), addLigature(200, 'a', 3), addLigature(219, 'z', 3)));
        for (int i = mill.make().length() + 2; i >= 0; i--) {
            all.add(removeLast());
        }
        return answers(mill, all.subList(0, Math.min(all.size(), Mill.MOST_CALLS - mill.calls())));
    }

    /** One answer a line; a new object as soon as the one before has had its calls. */
    private static String answers(Mill mill, List<Ask> questions) {
        StringBuilder all = new StringBuilder();
        Glyphmill made = null;
        int left = 0;
        for (Ask question : questions) {
            if (left == 0) {
                made = mill.make();
                left = Mill.MOST_CALLS - mill.calls();
            }
            tell(all, question.name(), answer(made, question));
            left--;
        }
        return all.toString();
    }

    static void tell(StringBuilder all, String what, String answer) {
        all.append(what).append(" = ").append(answer).append('\n');
    }

    /** The first line in which two tellings differ. */
    static String firstDifference(String one, String other) {
        String[] ones = one.split("\n");
        String[] others = other.split("\n");
        for (int i = 0; i < ones.length && i < others.length; i++) {
            if (!ones[i].equals(others[i])) {
                return ones[i] + " but " + others[i];
            }
        }
        return ones.length == others.length ? "none" : "one has more lines";
    }

    // ---- the calls

    static Ask add(char c) {
        String told = c > ' ' && c < 127 ? "'" + c + "'" : "(char) " + (int) c;
        return new Ask("add(" + told + ")", m -> m.add(c));
    }

    static Ask removeLast() {
        return new Ask("removeLast()", Glyphmill::removeLast);
    }

    static Ask setWidth(char c, int width) {
        return new Ask("setWidth((char) " + (int) c + ", " + width + ")", m -> m.setWidth(c, width));
    }

    static Ask setLine(int width) {
        return new Ask("setLine(" + width + ")", m -> m.setLine(width));
    }

    static Ask setBase(boolean isRight) {
        return new Ask("setBase(" + isRight + ")", m -> m.setBase(isRight));
    }

    static Ask addLigature(int first, char second, int width) {
        return new Ask("addLigature(" + first + ", (char) " + (int) second + ", " + width + ")",
                m -> m.addLigature(first, second, width));
    }

    static Ask length() {
        return new Ask("length()", Glyphmill::length);
    }

    static Ask charAt(int index) {
        return new Ask("charAt(" + index + ")", m -> m.charAt(index));
    }

    static Ask open() {
        return new Ask("open()", Glyphmill::open);
    }

    static Ask embeddingOf(int index) {
        return new Ask("embeddingOf(" + index + ")", m -> m.embeddingOf(index));
    }

    static Ask levelOf(int index) {
        return new Ask("levelOf(" + index + ")", m -> m.levelOf(index));
    }

    static Ask scriptOf(int index) {
        return new Ask("scriptOf(" + index + ")", m -> m.scriptOf(index));
    }

    static Ask runOf(int index) {
        return new Ask("runOf(" + index + ")", m -> m.runOf(index));
    }

    static Ask runs() {
        return new Ask("runs()", Glyphmill::runs);
    }

    static Ask glyphOf(int index) {
        return new Ask("glyphOf(" + index + ")", m -> m.glyphOf(index));
    }

    static Ask glyphStart(int index) {
        return new Ask("glyphStart(" + index + ")", m -> m.glyphStart(index));
    }

    static Ask glyphs() {
        return new Ask("glyphs()", Glyphmill::glyphs);
    }

    static Ask breaks() {
        return new Ask("breaks()", Glyphmill::breaks);
    }

    static Ask breakAt(int rank) {
        return new Ask("breakAt(" + rank + ")", m -> m.breakAt(rank));
    }

    static Ask tooWide() {
        return new Ask("tooWide()", Glyphmill::tooWide);
    }

    static Ask excess() {
        return new Ask("excess()", Glyphmill::excess);
    }

    static Ask lines() {
        return new Ask("lines()", Glyphmill::lines);
    }

    static Ask linesByFirstFit() {
        return new Ask("linesByFirstFit()", Glyphmill::linesByFirstFit);
    }

    static Ask firstOf(int line) {
        return new Ask("firstOf(" + line + ")", m -> m.firstOf(line));
    }

    static Ask lineOf(int index) {
        return new Ask("lineOf(" + index + ")", m -> m.lineOf(index));
    }

    static Ask widthOf(int line) {
        return new Ask("widthOf(" + line + ")", m -> m.widthOf(line));
    }

    static Ask badnessOf(int line) {
        return new Ask("badnessOf(" + line + ")", m -> m.badnessOf(line));
    }

    static Ask demerits() {
        return new Ask("demerits()", Glyphmill::demerits);
    }

    static Ask demeritsByTrying() {
        return new Ask("demeritsByTrying()", Glyphmill::demeritsByTrying);
    }

    static Ask linesByTrying() {
        return new Ask("linesByTrying()", Glyphmill::linesByTrying);
    }

    static Ask glyphsOf(int line) {
        return new Ask("glyphsOf(" + line + ")", m -> m.glyphsOf(line));
    }

    static Ask glyphAt(int line, int rank) {
        return new Ask("glyphAt(" + line + ", " + rank + ")", m -> m.glyphAt(line, rank));
    }

    static Ask rankOf(int index) {
        return new Ask("rankOf(" + index + ")", m -> m.rankOf(index));
    }

    static Ask rankByCounting(int index) {
        return new Ask("rankByCounting(" + index + ")", m -> m.rankByCounting(index));
    }

    static Ask placeOf(int index) {
        return new Ask("placeOf(" + index + ")", m -> m.placeOf(index));
    }

    static Ask justifiedWidth(int index) {
        return new Ask("justifiedWidth(" + index + ")", m -> m.justifiedWidth(index));
    }

    static Ask hyphenShare() {
        return new Ask("hyphenShare()", Glyphmill::hyphenShare);
    }

    static Ask meanBadness() {
        return new Ask("meanBadness()", Glyphmill::meanBadness);
    }
}
