/** Promises 11 to 15, and what 'Embedding levels', 'Levels' and 'Scripts and runs' say: a test for each sentence. */
public final class LevelsTest extends Check {
    public static void main(String[] args) {
        baseLevel();
        embeddingHasLevel();
        deepestEmbeddings();
        innermostEmbedding();
        leftIfEven();
        stretches();
        startDirection();
        endDirection();
        digits();
        maximalNeutrals();
        sidesOfNeutrals();
        directionOfNeutrals();
        neutralsCountAsLetters();
        levels();
        scriptsOfLetters();
        scriptsOfOthers();
        runsAreMaximal();
        runNumbers();
        runsCounted();
        refusedIndices("Promise 11: embeddingOf", Check::embeddingOf);
        refusedIndices("Promise 12: levelOf", Check::levelOf);
        refusedIndices("Promise 13: scriptOf", Check::scriptOf);
        refusedIndices("Promise 14: runOf", Check::runOf);
        refusedMarks("Promise 11: embeddingOf", Check::embeddingOf);
        refusedMarks("Promise 12: levelOf", Check::levelOf);
        refusedMarks("Promise 13: scriptOf", Check::scriptOf);
        refusedMarks("Promise 14: runOf", Check::runOf);
        end();
    }

    private static void dueEmbeddings(boolean isRight, String text, String want) {
        dueEach(Mill.NEW.base(isRight).type(text), Check::embeddingOf, want);
    }

    /** The levels of a text that runs from left to right. */
    private static void dueLeft(String text, String want) {
        dueEach(Mill.of(text), Check::levelOf, want);
    }

    /** The levels of a text that runs from right to left. */
    private static void dueRight(String text, String want) {
        dueEach(Mill.right(text), Check::levelOf, want);
    }

    // ---- Embedding levels

    private static void baseLevel() {
        says("The base level is 0 if the text runs from left to right, and 1 if it runs from right to left.");
        dueEmbeddings(false, "aA1-", "0 0 0 0");
        dueEmbeddings(true, "aA1-", "1 1 1 1");
        dueEach(Mill.of("aA1-").base(true), Check::embeddingOf, "1 1 1 1");
        dueEach(Mill.right("aA1-").base(false), Check::embeddingOf, "0 0 0 0");
    }

    private static void embeddingHasLevel() {
        says("An embedding has a level: for a left embedding the least even number, for a right embedding the least odd "
                + "number, that is greater than the level of the embedding in which it is begun, or than the base level.");
        dueEmbeddings(false, "[a", "m 2");
        dueEmbeddings(false, "{a", "m 1");
        dueEmbeddings(true, "[a", "m 2");
        dueEmbeddings(true, "{a", "m 3");
        dueEmbeddings(false, "[[a", "m m 4");
        dueEmbeddings(false, "[{a", "m m 3");
        dueEmbeddings(false, "{[a", "m m 2");
        dueEmbeddings(false, "{{a", "m m 3");
        dueEmbeddings(true, "{[a", "m m 4");
        dueEmbeddings(true, "{{a", "m m 5");
        // one that has ended does not count any more
        dueEmbeddings(false, "[{a}{b}[c}[d", "m m 3 m m 3 m m 4 m m 4");
        dueEmbeddings(false, "[a}[b}{c}{d", "m 2 m m 2 m m 1 m m 1");
        dueEmbeddings(true, "{a}{b}[c}[d", "m 3 m m 3 m m 2 m m 2");
    }

    private static void deepestEmbeddings() {
        says("At most 5 embeddings are open at a time: the levels of the innermost ones.");
        dueEmbeddings(false, "[a[b[c[d[e", "m 2 m 4 m 6 m 8 m 10");
        dueEmbeddings(true, "[a[b[c[d[e", "m 2 m 4 m 6 m 8 m 10");
        dueEmbeddings(false, "{a{b{c{d{e", "m 1 m 3 m 5 m 7 m 9");
        dueEmbeddings(true, "{a{b{c{d{e", "m 3 m 5 m 7 m 9 m 11");
        dueEmbeddings(false, "{a[b{c[d{e", "m 1 m 2 m 3 m 4 m 5");
        dueEmbeddings(true, "{a[b{c[d{e", "m 3 m 4 m 5 m 6 m 7");
        dueEmbeddings(false, "[a{b[c{d[e", "m 2 m 3 m 4 m 5 m 6");
        dueEmbeddings(true, "[a{b[c{d[e", "m 2 m 3 m 4 m 5 m 6");
        dueEmbeddings(true, "{{{{{e}[d", "m m m m m 11 m m 10");
        dueEmbeddings(true, "[[[[[e}{d", "m m m m m 10 m m 9");
    }

    private static void innermostEmbedding() {
        says("The embedding level of a character is the level of the innermost embedding that is open there, or the base "
                + "level.");
        dueEmbeddings(false, "a[b{c}d}e", "0 m 2 m 3 m 2 m 0");
        dueEmbeddings(true, "a[b{c}d}e", "1 m 2 m 3 m 2 m 1");
        dueEmbeddings(true, "a{b[c}d}e", "1 m 3 m 4 m 3 m 1");
        dueEmbeddings(false, "{a[b{c[d{e}f}g}h}i}-", "m 1 m 2 m 3 m 4 m 5 m 4 m 3 m 2 m 1 m 0");
        dueEmbeddings(false, "[[[[[}}}}}a", "m m m m m m m m m m 0");
        dueEmbeddings(true, "[[[[[}}}}}a", "m m m m m m m m m m 1");
    }

    private static void leftIfEven() {
        says("A level is left if it is even, and right if it is odd.");
        dueLeft("-", "0");
        dueRight("-", "1");
        dueLeft("{-}", "m 1 m");
        dueLeft("[-}", "m 2 m");
        dueLeft("[{-}}", "m m 3 m m");
        dueLeft("[[-}}", "m m 4 m m");
        dueLeft("[[[[[-", "m m m m m 10");
        dueRight("{{{{{-", "m m m m m 11");
    }

    // ---- Levels

    private static void stretches() {
        says("A stretch is a maximal sequence of neighbours with the same embedding level.");
        // the digit finds the letter of its stretch: then it is a number
        dueLeft("A1", "1 2");
        dueLeft("A[}1", "1 m m 2");
        dueLeft("A[{}{}}1", "1 m m m m m m 2");
        dueLeft("A{b}1", "1 m 2 m 2");
        // another level between them, or round the digit, ends the stretch
        dueLeft("A[b}1", "1 m 2 m 0");
        dueLeft("A[1}", "1 m 2 m");
        dueLeft("[A}1", "m 3 m 0");
        // embeddings of the same level side by side are one stretch, wherever they were begun
        dueLeft("[A}[1}", "m 3 m m 4 m");
        dueLeft("{[A}}[1}", "m m 3 m m m 4 m");
        dueLeft("{[A}B}[1}", "m m 3 m 1 m m 2 m");
        dueLeft("{a-}{-b}", "m 2 2 m m 2 2 m");
    }

    private static void startDirection() {
        says("It has a start direction: that of the greater one of its embedding level and the embedding level of the "
                + "neighbour ahead of it, or of its embedding level and the base level if there is no such neighbour.");
        // no neighbour ahead of it
        dueLeft("1", "0");
        dueRight("1-a", "2 1 2");
        dueLeft("{1-a", "m 2 1 2");
        dueLeft("[1-A", "m 2 2 3");
        dueRight("[1-A", "m 2 2 3");
        dueLeft("[}1", "m m 0");
        dueLeft("{}1", "m m 0");
        dueRight("{}1-a", "m m 2 1 2");
        dueRight("[}1-a", "m m 2 1 2");
        // the level ahead of it is greater
        dueLeft("{a}1", "m 2 m 2");
        dueLeft("[a}1", "m 2 m 0");
        dueLeft("[{A}1}", "m m 3 m 4 m");
        dueLeft("{[a}1-b}", "m m 2 m 2 2 2 m");
        dueLeft("{a}[}1", "m 2 m m m 2");
        dueLeft("{a}{}1", "m 2 m m m 2");
        dueRight("[a}-b", "m 2 m 2 2");
        // its own level is greater
        dueLeft("a[1}", "0 m 2 m");
        dueLeft("a{1-b}", "0 m 2 1 2 m");
        dueRight("A[1-B}", "1 m 2 2 3 m");
        // one of them is even, and the other one is odd
        dueLeft("[a}{-b", "m 2 m m 2 2");
        dueLeft("{A}[-B", "m 1 m m 2 3");
    }

    private static void endDirection() {
        says("It has an end direction, which is found in the same way with the neighbour behind it.");
        // no neighbour behind it
        dueLeft("A-", "1 0");
        dueLeft("A-{}", "1 0 m m");
        dueLeft("A-{", "1 0 m");
        dueRight("a-", "2 1");
        dueRight("a-[}", "2 1 m m");
        dueLeft("{a-", "m 2 1");
        dueLeft("{a-}", "m 2 1 m");
        dueLeft("[A-", "m 3 2");
        dueRight("[A-}", "m 3 2 m");
        // the level behind it is greater
        dueLeft("A-{b}", "1 1 m 2 m");
        dueLeft("A-[b}", "1 0 m 2 m");
        dueLeft("A-[}{b}", "1 1 m m m 2 m");
        dueRight("a-[b}", "2 2 m 2 m");
        dueRight("a-{b}", "2 1 m 4 m");
        dueLeft("{a-[b", "m 2 2 m 2");
        // its own level is greater
        dueLeft("[A-}b", "m 3 2 m 0");
        dueLeft("{a-}b", "m 2 1 m 0");
        dueLeft("[{A-}b", "m m 3 3 m 2");
        dueLeft("[{a-}b", "m m 4 3 m 2");
    }

    private static void digits() {
        says("First, a digit counts as a left letter if the last letter ahead of it in its stretch is a left letter, or "
                + "if there is no letter ahead of it there and the start direction is left; otherwise it counts as a "
                + "number.");
        dueLeft("a1", "0 0");
        dueLeft("A1", "1 2");
        dueLeft("a12345", "0 0 0 0 0 0");
        dueLeft("A12345", "1 2 2 2 2 2");
        // the last letter, not the first one, and none behind the digit
        dueLeft("aA1", "0 1 2");
        dueLeft("Aa1", "1 0 0");
        dueLeft("1A", "0 1");
        dueLeft("a1A2b3", "0 0 1 2 0 0");
        dueRight("a1-b", "2 2 2 2");
        dueRight("a1-B", "2 2 1 1");
        // neither digits nor neutral characters are letters
        dueLeft("A1-1", "1 2 1 2");
        dueLeft("A- ,.1", "1 1 1 1 1 2");
        dueLeft("a- ,.1", "0 0 0 0 0 0");
        // no letter ahead of it there
        dueLeft("-1", "0 0");
        dueRight("1 2-a", "2 1 2 1 2");
        dueLeft("{a}-1", "m 2 m 1 2");
        dueLeft("{a}1-1A", "m 2 m 2 1 2 1");
        dueLeft("a{1-a}", "0 m 2 1 2 m");
        dueRight("A[1-A}", "1 m 2 2 3 m");
        dueLeft("A[1A1}1", "1 m 2 3 4 m 0");
    }

    private static void maximalNeutrals() {
        says("Then a maximal sequence of neutral characters in a stretch gets a direction.");
        dueLeft("A- ,.B", "1 1 1 1 1 1");
        dueLeft("A- ,.b", "1 0 0 0 0 0");
        dueLeft("A--[}--B", "1 1 1 m m 1 1 1");
        dueRight("a--[}--b", "2 2 2 m m 2 2 2");
        dueLeft("A--", "1 0 0");
        // a sequence ends with its stretch
        dueLeft("A-[-B}", "1 0 m 2 3 m");
        dueLeft("A-{-B}", "1 1 m 1 1 m");
        dueLeft("{a-}-{-b}", "m 2 1 m 1 m 1 2 m");
        dueLeft(" ".repeat(50), ("0 ".repeat(50)).trim());
        dueRight(" ".repeat(50), ("1 ".repeat(50)).trim());
        dueLeft("A" + " ".repeat(48) + "A", ("1 ".repeat(50)).trim());
        dueLeft("A" + " ".repeat(48) + "a", "1" + " 0".repeat(49));
    }

    private static void sidesOfNeutrals() {
        says("Let the direction on each side be that of the neighbour in the stretch, where a number counts as right, or "
                + "the start or end direction if the sequence reaches that end of the stretch.");
        // a number ahead of it, behind it, on both sides; a digit that counts as a left letter
        dueLeft("A1-B", "1 2 1 1");
        dueLeft("A-1", "1 1 2");
        dueLeft("A1-1", "1 2 1 2");
        dueLeft("A1-b", "1 2 0 0");
        dueRight("b-1-b", "2 2 2 2 2");
        dueRight("A1-b", "1 2 1 2");
        dueLeft("a1-B", "0 0 0 1");
        dueLeft("1-A", "0 0 1");
        // the start, the end, and both
        dueLeft("-A", "0 1");
        dueRight("-a", "1 2");
        dueRight("-A", "1 1");
        dueLeft("A-", "1 0");
        dueRight("a-", "2 1");
        dueRight("A-", "1 1");
        dueLeft("{A}-{B}", "m 1 m 1 m 1 m");
        dueLeft("{a}-{b}", "m 2 m 1 m 2 m");
        dueLeft("{a}-[b}", "m 2 m 0 m 2 m");
        dueLeft("[a}-{b}", "m 2 m 0 m 2 m");
        dueLeft("[A}-[B}", "m 3 m 0 m 3 m");
        dueRight("[A}-[B}", "m 3 m 2 m 3 m");
        dueLeft("{A}-", "m 1 m 0");
        dueLeft("-{A}", "0 m 1 m");
    }

    private static void directionOfNeutrals() {
        says("If the directions on both sides are the same, the sequence gets this direction; otherwise it gets that of "
                + "the embedding level.");
        dueLeft("a-b", "0 0 0");
        dueLeft("a-B", "0 0 1");
        dueLeft("A-b", "1 0 0");
        dueLeft("A-B", "1 1 1");
        dueRight("a-b", "2 2 2");
        dueRight("a-B", "2 1 1");
        dueRight("A-b", "1 1 2");
        dueRight("A-B", "1 1 1");
        dueLeft("[a-b", "m 2 2 2");
        dueLeft("[a-B", "m 2 2 3");
        dueLeft("[A-b", "m 3 2 2");
        dueLeft("[A-B", "m 3 3 3");
        dueLeft("[{a-b", "m m 4 4 4");
        dueLeft("[{a-B", "m m 4 3 3");
        dueLeft("[{A-b", "m m 3 3 4");
        dueLeft("[{A-B", "m m 3 3 3");
    }

    private static void neutralsCountAsLetters() {
        says("A neutral character with a direction counts as a letter of this direction.");
        for (char c : NEUTRALS.toCharArray()) {
            dueLeft("a" + c + "a", "0 0 0");
            dueLeft("A" + c + "A", "1 1 1");
            dueRight("a" + c + "a", "2 2 2");
            dueRight("A" + c + "A", "1 1 1");
        }
        // a digit behind it does not take it for a letter: digits come first
        dueLeft("{A}-{B}1", "m 1 m 1 m 1 m 2");
        dueLeft("-1A", "0 0 1");
        dueLeft("A[-}1", "1 m 2 m 0");
    }

    private static void levels() {
        says("At last, with an even embedding level e, left letters get the level e, right letters e + 1 and numbers "
                + "e + 2; with an odd one, right letters get e, and left letters and numbers e + 1.");
        dueLeft("aA1", "0 1 2");
        dueLeft("[aA1", "m 2 3 4");
        dueLeft("[[[[[aA1", "m m m m m 10 11 12");
        dueRight("aA1", "2 1 2");
        dueLeft("{aA1", "m 2 1 2");
        dueRight("{aA1", "m 4 3 4");
        dueRight("{{{{{aA1", "m m m m m 12 11 12");
    }

    // ---- Scripts and runs

    private static void scriptsOfLetters() {
        says("The letters a to m have the script 0, n to z the script 1, and A to Z the script 2.");
        for (char c : LETTERS.toCharArray()) {
            String script = c >= 'A' && c <= 'Z' ? "2" : c <= 'm' ? "0" : "1";
            dueEach(Mill.of("" + c), Check::scriptOf, script);
            dueEach(Mill.of("nA" + c), Check::scriptOf, "1 2 " + script);
            dueEach(Mill.of("a" + c), Check::scriptOf, "0 " + script);
        }
        dueEach(Mill.of("amnzAMNZ"), Check::scriptOf, "0 0 1 1 2 2 2 2");
    }

    private static void scriptsOfOthers() {
        says("Any other character has the script of the last letter ahead of it in the text; without one, that of the "
                + "first letter behind it; and without any letter, 0.");
        dueEach(Mill.of("a1n1A1"), Check::scriptOf, "0 0 1 1 2 2");
        dueEach(Mill.of("n 1-,.a"), Check::scriptOf, "1 1 1 1 1 1 0");
        dueEach(Mill.of("1nA"), Check::scriptOf, "1 1 2");
        dueEach(Mill.of("1An"), Check::scriptOf, "2 2 1");
        dueEach(Mill.of(" -,.0An"), Check::scriptOf, "2 2 2 2 2 2 1");
        dueEach(Mill.of("0123456789 -,."), Check::scriptOf, "0 0 0 0 0 0 0 0 0 0 0 0 0 0");
        dueEach(Mill.of(" "), Check::scriptOf, "0");
        dueEach(Mill.of("[1}{"), Check::scriptOf, "m 0 m m");
        // in the text: marks, levels and stretches do not matter
        dueEach(Mill.of("n[A}1"), Check::scriptOf, "1 m 2 m 2");
        dueEach(Mill.of("{[z}1}-{1"), Check::scriptOf, "m m 1 m 1 m 1 m 1");
        dueEach(Mill.of("1[{N"), Check::scriptOf, "2 m m 2");
        dueEach(Mill.of("1" + "-".repeat(48) + "z"), Check::scriptOf, "1 ".repeat(50).trim());
        dueEach(Mill.of("Z" + "-".repeat(49)), Check::scriptOf, "2 ".repeat(50).trim());
        dueEach(Mill.right("1n 1A"), Check::scriptOf, "1 1 1 1 2");
        dueEach(Mill.of("-n").cut(1), Check::scriptOf, "0");
    }

    private static void runsAreMaximal() {
        says("A run is a maximal sequence of neighbours with the same level and the same script.");
        dueEach(Mill.of("abm"), Check::runOf, "0 0 0");
        dueEach(Mill.of("mn"), Check::runOf, "0 1");
        dueEach(Mill.of("A1"), Check::runOf, "0 1");
        dueEach(Mill.of("A-1"), Check::runOf, "0 0 1");
        dueEach(Mill.of("ana"), Check::runOf, "0 1 2");
        dueEach(Mill.of("aAa"), Check::runOf, "0 1 2");
        dueEach(Mill.of("a[b}c"), Check::runOf, "0 m 1 m 2");
        dueEach(Mill.of("a[}b"), Check::runOf, "0 m m 0");
        dueEach(Mill.of("[a}[b}"), Check::runOf, "m 0 m m 0 m");
        dueEach(Mill.of("an.o"), Check::runOf, "0 1 1 1");
        dueEach(Mill.of("n1[}-,z"), Check::runOf, "0 0 m m 0 0 0");
        dueEach(Mill.of("a".repeat(50)), Check::runOf, "0 ".repeat(50).trim());
        // the same level, reached in two stretches
        dueEach(Mill.of("[f}{i"), Check::runOf, "m 0 m m 0");
        dueEach(Mill.of("{A}A"), Check::runOf, "m 0 m 0");
    }

    private static void runNumbers() {
        says("Runs have numbers from 0 in the order of the text.");
        dueEach(Mill.of("ab AB 12"), Check::runOf, "0 0 0 1 1 1 2 2");
        dueEach(Mill.right("ab AB 12"), Check::runOf, "0 0 1 2 2 2 3 3");
        dueEach(Mill.of("[a"), Check::runOf, "m 0");
        StringBuilder numbers = new StringBuilder("0");
        for (int i = 1; i < 50; i++) {
            numbers.append(' ').append(i);
        }
        dueEach(Mill.of("an".repeat(25)), Check::runOf, numbers.toString());
    }

    private static void runsCounted() {
        says("Promise 15: runs returns the number of runs.");
        due(Mill.NEW, runs(), 0);
        due(Mill.of("[{}}"), runs(), 0);
        due(Mill.of("a"), runs(), 1);
        due(Mill.of(" "), runs(), 1);
        due(Mill.of("a[}b"), runs(), 1);
        due(Mill.of("mn"), runs(), 2);
        due(Mill.of("A1B"), runs(), 3);
        due(Mill.of("a".repeat(50)), runs(), 1);
        due(Mill.of("an".repeat(25)), runs(), 50);
        due(Mill.of("an".repeat(25)).cut(50), runs(), 0);
    }

    // ---- promises 11 to 14

    private static void refusedIndices(String promise, OfIndex question) {
        says(promise + " throws `IndexOutOfBoundsException` if there is no such index");
        for (int i : new int[] {-1, 4, 5, 50, LEAST, MOST}) {
            refused(Mill.of("a[b-"), question.of(i), INDEX);
            refused(Mill.NEW, question.of(i), INDEX);
        }
        refused(Mill.NEW, question.of(0), INDEX);
        refused(Mill.of("a").cut(1), question.of(0), INDEX);
        refused(Mill.of("a[b-").cut(1), question.of(3), INDEX);
        refused(Mill.of("An-1 ".repeat(10)).cut(50).type("a".repeat(50)), question.of(50), INDEX);
        refused(Mill.of("a".repeat(49)), question.of(49), INDEX);
        // the first and the last index that there are
        due(Mill.of("a".repeat(50)), question.of(0), 0);
        due(Mill.of("a".repeat(50)), question.of(49), 0);
    }

    private static void refusedMarks(String promise, OfIndex question) {
        says(promise + " throws `UnsupportedOperationException` if it is a mark");
        for (int i : new int[] {0, 2, 4, 5}) {
            refused(Mill.of("[a{b}}"), question.of(i), UNSUPPORTED);
        }
        refused(Mill.of("["), question.of(0), UNSUPPORTED);
        refused(Mill.of("{}"), question.of(0), UNSUPPORTED);
        refused(Mill.of("[" + "a".repeat(48) + "}"), question.of(49), UNSUPPORTED);
        refused(Mill.of("[" + "a".repeat(48) + "}"), question.of(0), UNSUPPORTED);
    }
}
