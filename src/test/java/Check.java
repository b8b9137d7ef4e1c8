import java.util.NoSuchElementException;

/** What the tests share: comparing answers, telling what was wrong, and reading all answers of an object. */
final class Check {
    static final String INDEX = "IndexOutOfBoundsException";
    static final String UNSUPPORTED = "UnsupportedOperationException";
    static final String STATE = "IllegalStateException";
    static final String ARGUMENT = "IllegalArgumentException";
    static final String NO_ELEMENT = "NoSuchElementException";
    static final String ARITHMETIC = "ArithmeticException";

    private static int asked = 0;
    private static int wrong = 0;

    interface Call {
        Object make();
    }

    private Check() {
    }

    /** The answer as a text, or the name of the exception that the call throws. */
    static String answer(Call call) {
        try {
            return String.valueOf(call.make());
        } catch (RuntimeException e) {
            return e.getClass().getSimpleName();
        }
    }

    static void due(String what, Object want, Call call) {
        asked++;
        String got = answer(call);
        if (!got.equals(String.valueOf(want))) {
            wrong++;
            System.out.println(what + " answered " + got + ", due is " + want);
        }
    }

    /** A call that throws this exception and changes nothing. */
    static void refuses(Glyphmill mill, String what, String exception, Call call) {
        String before = everything(mill);
        due(what, exception, call);
        due(what + " changes nothing", before, () -> everything(mill));
    }

    static Glyphmill mill(String text) {
        Glyphmill mill = new Glyphmill();
        type(mill, text);
        return mill;
    }

    static void type(Glyphmill mill, String text) {
        for (char c : text.toCharArray()) {
            mill.add(c);
        }
    }

    /** The answers for all indices of a text, one behind the other; m stands for a mark. */
    static String each(Glyphmill mill, OfIndex question) {
        StringBuilder all = new StringBuilder();
        for (int i = 0; i < mill.length(); i++) {
            int index = i;
            String one = answer(() -> question.of(index));
            all.append(i > 0 ? " " : "").append(one.equals(UNSUPPORTED) ? "m" : one.equals(NO_ELEMENT) ? "-" : one);
        }
        return all.toString();
    }

    interface OfIndex {
        Object of(int index);
    }

    static String levels(Glyphmill mill) {
        return each(mill, mill::levelOf);
    }

    /** All that can be asked of an object, with a few indices and ranks outside. */
    static String everything(Glyphmill mill) {
        StringBuilder all = new StringBuilder();
        tell(all, "length", mill::length);
        tell(all, "open", mill::open);
        tell(all, "runs", mill::runs);
        tell(all, "glyphs", mill::glyphs);
        tell(all, "breaks", mill::breaks);
        tell(all, "tooWide", mill::tooWide);
        tell(all, "excess", mill::excess);
        tell(all, "lines", mill::lines);
        tell(all, "linesByFirstFit", mill::linesByFirstFit);
        tell(all, "demerits", mill::demerits);
        tell(all, "demeritsByTrying", mill::demeritsByTrying);
        tell(all, "linesByTrying", mill::linesByTrying);
        tell(all, "hyphenShare", mill::hyphenShare);
        tell(all, "meanBadness", mill::meanBadness);
        for (int i = -1; i <= mill.length(); i++) {
            tellIndex(all, mill, i);
        }
        for (int r = -1; r <= mill.breaks(); r++) {
            int rank = r;
            tell(all, "breakAt " + r, () -> mill.breakAt(rank));
        }
        int lines = mill.tooWide() == -1 ? mill.lines() : 1;
        for (int l = -1; l <= lines; l++) {
            tellLine(all, mill, l);
        }
        return all.toString();
    }

    private static void tellIndex(StringBuilder all, Glyphmill mill, int i) {
        tell(all, "charAt " + i, () -> mill.charAt(i));
        tell(all, "embeddingOf " + i, () -> mill.embeddingOf(i));
        tell(all, "levelOf " + i, () -> mill.levelOf(i));
        tell(all, "scriptOf " + i, () -> mill.scriptOf(i));
        tell(all, "runOf " + i, () -> mill.runOf(i));
        tell(all, "glyphOf " + i, () -> mill.glyphOf(i));
        tell(all, "glyphStart " + i, () -> mill.glyphStart(i));
        tell(all, "lineOf " + i, () -> mill.lineOf(i));
        tell(all, "rankOf " + i, () -> mill.rankOf(i));
        tell(all, "rankByCounting " + i, () -> mill.rankByCounting(i));
        tell(all, "placeOf " + i, () -> mill.placeOf(i));
        tell(all, "justifiedWidth " + i, () -> mill.justifiedWidth(i));
    }

    private static void tellLine(StringBuilder all, Glyphmill mill, int l) {
        tell(all, "firstOf " + l, () -> mill.firstOf(l));
        tell(all, "widthOf " + l, () -> mill.widthOf(l));
        tell(all, "badnessOf " + l, () -> mill.badnessOf(l));
        tell(all, "glyphsOf " + l, () -> mill.glyphsOf(l));
        String size = answer(() -> mill.glyphsOf(l));
        int ranks = Character.isDigit(size.charAt(0)) ? Integer.parseInt(size) : 0;
        for (int r = -1; r <= ranks; r++) {
            int rank = r;
            tell(all, "glyphAt " + l + " " + r, () -> mill.glyphAt(l, rank));
        }
    }

    static void tell(StringBuilder all, String what, Call call) {
        all.append(what).append(" = ").append(answer(call)).append('\n');
    }

    /** The first line in which two tellings differ. */
    static String firstDifference(String one, String other) {
        String[] ones = one.split("\n");
        String[] others = other.split("\n");
        for (int i = 0; i < ones.length && i < others.length; i++) {
            if (!ones[i].equals(others[i])) {
                return ones[i] + " but " + others[i];
            }
        }
        return ones.length == others.length ? "none" : "one has more lines";
    }

    static void end() {
        System.out.println(asked + " answers looked at, " + wrong + " wrong");
        if (asked == 0 || wrong > 0) {
            System.exit(1);
        }
    }

    static NoSuchElementException none() {
        return new NoSuchElementException();
    }
}
