/** Promises 11 to 15: embedding levels, levels, scripts and runs. */
public final class LevelsTest {
    public static void main(String[] args) {
        embeddings();
        levelsOfLetters();
        levelsOfDigits();
        levelsOfNeutrals();
        levelsBetweenEmbeddings();
        scripts();
        runs();
        refusals();
        Check.end();
    }

    private static Glyphmill mill(boolean isRight, String text) {
        Glyphmill mill = new Glyphmill();
        mill.setBase(isRight);
        Check.type(mill, text);
        return mill;
    }

    private static void dueEmbeddings(boolean isRight, String text, String want) {
        Glyphmill mill = mill(isRight, text);
        Check.due("embeddings of " + text + " base " + isRight, want, () -> Check.each(mill, mill::embeddingOf));
    }

    private static void dueLevels(boolean isRight, String text, String want) {
        Glyphmill mill = mill(isRight, text);
        Check.due("levels of " + text + " base " + isRight, want, () -> Check.levels(mill));
    }

    private static void embeddings() {
        dueEmbeddings(false, "a[b{c}d}e", "0 m 2 m 3 m 2 m 0");
        dueEmbeddings(true, "a[b{c}d}e", "1 m 2 m 3 m 2 m 1");
        dueEmbeddings(false, "a{b[c}d}e", "0 m 1 m 2 m 1 m 0");
        dueEmbeddings(true, "a{b[c}d}e", "1 m 3 m 4 m 3 m 1");
        dueEmbeddings(false, "[a[b[c[d[e", "m 2 m 4 m 6 m 8 m 10");
        dueEmbeddings(true, "[a[b[c[d[e", "m 2 m 4 m 6 m 8 m 10");
        dueEmbeddings(false, "{a{b{c{d{e", "m 1 m 3 m 5 m 7 m 9");
        dueEmbeddings(true, "{a{b{c{d{e", "m 3 m 5 m 7 m 9 m 11");
        dueEmbeddings(false, "{a[b{c[d{e}}}}}-", "m 1 m 2 m 3 m 4 m 5 m m m m m 0");
        dueEmbeddings(false, "[1}{1}[ }", "m 2 m m 1 m m 2 m");
    }

    private static void levelsOfLetters() {
        dueLevels(false, "aA[bB{cC", "0 1 m 2 3 m 4 3");
        dueLevels(true, "aA[bB{cC", "2 1 m 2 3 m 4 3");
        dueLevels(false, "zZ", "0 1");
        dueLevels(true, "{aA}", "m 4 3 m");
    }

    private static void levelsOfDigits() {
        dueLevels(false, "12", "0 0");
        dueLevels(true, "12", "2 2");
        dueLevels(false, "a1A2b3", "0 0 1 2 0 0");
        dueLevels(true, "a1A2b3", "2 2 1 2 2 2");
        dueLevels(true, "1a1", "2 2 2");
        dueLevels(false, "{12}", "m 2 2 m");
        dueLevels(false, "a[12}", "0 m 2 2 m");
        // a letter in another stretch does not count, but marks alone do not end a stretch
        dueLevels(false, "A[1}", "1 m 2 m");
        dueLevels(false, "A[b}1", "1 m 2 m 0");
        dueLevels(false, "A[}1", "1 m m 2");
        dueLevels(false, "A[{}}1", "1 m m m m 2");
        dueLevels(false, "a{B}1", "0 m 1 m 2");
        dueLevels(false, "[{A}1}", "m m 3 m 4 m");
        dueLevels(false, "[1{A}1}", "m 2 m 3 m 4 m");
        dueLevels(false, "{A[1}a1", "m 1 m 2 m 2 2");
        dueLevels(false, "A, 1-2", "1 1 1 2 1 2");
    }

    private static void levelsOfNeutrals() {
        dueLevels(false, "ab AB 12", "0 0 0 1 1 1 2 2");
        dueLevels(true, "ab AB 12", "2 2 1 1 1 1 2 2");
        dueLevels(false, " -,.", "0 0 0 0");
        dueLevels(true, " -,.", "1 1 1 1");
        dueLevels(false, "a-b", "0 0 0");
        dueLevels(true, "a-b", "2 2 2");
        dueLevels(false, "A- ,.B", "1 1 1 1 1 1");
        dueLevels(false, "A-b", "1 0 0");
        dueLevels(true, "A-b", "1 1 2");
        dueLevels(true, "b-A", "2 1 1");
        dueLevels(false, "A-", "1 0");
        dueLevels(false, "-A", "0 1");
        dueLevels(true, "a-", "2 1");
        dueLevels(true, "-a", "1 2");
        dueLevels(false, "A,1.a", "1 1 2 0 0");
        dueLevels(false, "a,1.A", "0 0 0 0 1");
        dueLevels(true, "1 2", "2 1 2");
        dueLevels(false, "1 2", "0 0 0");
        dueLevels(false, "A1 1", "1 2 1 2");
    }

    private static void levelsBetweenEmbeddings() {
        // the start and the end take the greater one of the two embedding levels
        dueLevels(false, "[{A}-}", "m m 3 m 2 m");
        dueLevels(false, "[{A}-{B", "m m 3 m 3 m 3");
        dueLevels(false, "[-}", "m 2 m");
        dueLevels(true, "[-}", "m 2 m");
        dueLevels(false, "{-}", "m 1 m");
        dueLevels(false, "{A}-{B}", "m 1 m 1 m 1 m");
        dueLevels(false, "{a}-{b}", "m 2 m 1 m 2 m");
        dueLevels(false, "a{A}-{B}", "0 m 1 m 1 m 1 m");
        dueLevels(false, "{A}-", "m 1 m 0");
        dueLevels(false, "-{A}", "0 m 1 m");
        dueLevels(true, "[a}-[b}", "m 2 m 2 m 2 m");
        dueLevels(true, "[a}-", "m 2 m 1");
        dueLevels(true, "-[a}", "1 m 2 m");
        dueLevels(true, "A-[a}", "1 1 m 2 m");
        dueLevels(true, "[a}-A", "m 2 m 1 1");
        // two embeddings of the same level side by side are one stretch
        dueLevels(false, "{A}{-}{a}", "m 1 m m 1 m m 2 m");
        dueLevels(false, "[a}[-}[b}", "m 2 m m 2 m m 2 m");
        dueLevels(false, "[A}[1}", "m 3 m m 4 m");
    }

    private static void dueScripts(String text, String want) {
        Glyphmill mill = Check.mill(text);
        Check.due("scripts of " + text, want, () -> Check.each(mill, mill::scriptOf));
    }

    private static void scripts() {
        dueScripts("amnzAMNZ", "0 0 1 1 2 2 2 2");
        dueScripts("1-m 2n,Z.", "0 0 0 0 0 1 1 2 2");
        dueScripts("1 -,.", "0 0 0 0 0");
        dueScripts("1[}N", "2 m m 2");
        dueScripts("n[A}1", "1 m 2 m 2");
        dueScripts("-{[z-", "1 m m 1 1");
        dueScripts("1Z1a1n1", "2 2 2 0 0 1 1");
    }

    private static void dueRuns(boolean isRight, String text, String want, int count) {
        Glyphmill mill = mill(isRight, text);
        Check.due("runs of " + text, want, () -> Check.each(mill, mill::runOf));
        Check.due("number of runs of " + text, count, mill::runs);
    }

    private static void runs() {
        dueRuns(false, "", "", 0);
        dueRuns(false, "[{}}", "m m m m", 0);
        dueRuns(false, "a", "0", 1);
        dueRuns(false, "abn.o", "0 0 1 1 1", 2);
        dueRuns(false, "aA", "0 1", 2);
        dueRuns(false, "a[b}c", "0 m 1 m 2", 3);
        dueRuns(false, "a[}b", "0 m m 0", 1);
        dueRuns(false, "[a}[b}", "m 0 m m 0 m", 1);
        dueRuns(false, "ab AB 12", "0 0 0 1 1 1 2 2", 3);
        dueRuns(true, "ab AB 12", "0 0 1 2 2 2 3 3", 4);
        dueRuns(false, "A1B", "0 1 2", 3);
        dueRuns(false, "an".repeat(25), "0 1 2 3 4 5 6 7 8 9 10 11 12 13 14 15 16 17 18 19 20 21 22 23 24 25 26 27 28 "
                + "29 30 31 32 33 34 35 36 37 38 39 40 41 42 43 44 45 46 47 48 49", 50);
    }

    private static void refusals() {
        Glyphmill mill = Check.mill("a[b}");
        for (int index : new int[] {-1, 4, 50, Integer.MIN_VALUE, Integer.MAX_VALUE}) {
            refused(mill, index, Check.INDEX);
        }
        refused(mill, 1, Check.UNSUPPORTED);
        refused(mill, 3, Check.UNSUPPORTED);
        refused(new Glyphmill(), 0, Check.INDEX);
        refused(Check.mill("{"), 0, Check.UNSUPPORTED);
    }

    private static void refused(Glyphmill mill, int index, String exception) {
        Check.refuses(mill, "embeddingOf " + index, exception, () -> mill.embeddingOf(index));
        Check.refuses(mill, "levelOf " + index, exception, () -> mill.levelOf(index));
        Check.refuses(mill, "scriptOf " + index, exception, () -> mill.scriptOf(index));
        Check.refuses(mill, "runOf " + index, exception, () -> mill.runOf(index));
        Check.refuses(mill, "glyphOf " + index, exception, () -> mill.glyphOf(index));
        Check.refuses(mill, "glyphStart " + index, exception, () -> mill.glyphStart(index));
    }
}
