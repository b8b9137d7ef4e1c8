/** Promises 38 and 39: the share of hyphens and the mean badness, a test for each sentence. */
public final class MeansTest extends Check {
    public static void main(String[] args) {
        hyphenShares();
        shareIsDividedAsFloat();
        meanBadnesses();
        meanIsDividedAsDouble();
        refusedWhereNotPossible("Promise 38: hyphenShare", hyphenShare());
        refusedWhereNotPossible("Promise 39: meanBadness", meanBadness());
        refusedWithoutLines("Promise 38: hyphenShare", hyphenShare());
        refusedWithoutLines("Promise 39: meanBadness", meanBadness());
        end();
    }

    private static Mill hyphened(String text) {
        return Mill.of(text).line(10).width('-', 2);
    }

    private static void hyphenShares() {
        says("Promise 38: Returns the share of lines whose last character that is not a mark is '-'");
        due(hyphened("aa bb"), hyphenShare(), 0f);
        due(hyphened("aa"), hyphenShare(), 0f);
        due(hyphened("-"), hyphenShare(), 1f);
        due(hyphened("aa-bb"), hyphenShare(), 0.5f);
        due(hyphened("aa bb-"), hyphenShare(), 0.5f);
        due(hyphened("aa-bb-cc-"), hyphenShare(), 1f);
        // marks behind it, and spaces, which are dropped but are characters
        due(hyphened("aa-[bb-}"), hyphenShare(), 1f);
        due(hyphened("aa-[{}}bb"), hyphenShare(), 0.5f);
        due(hyphened("aa- bb- "), hyphenShare(), 0f);
        due(hyphened("aa-[ }bb"), hyphenShare(), 0f);
        due(hyphened("  aa-"), hyphenShare(), 0.5f);
        // a hyphen inside a line does not count
        due(Mill.of("a-b-c"), hyphenShare(), 0f);
        due(Mill.of("a-b-c-"), hyphenShare(), 1f);
        due(Mill.of("-".repeat(50)).line(10).width('-', 10), hyphenShare(), 1f);
    }

    private static void shareIsDividedAsFloat() {
        says("Promise 38: their number divided by that of all lines, both converted to float.");
        due(hyphened("aa-bb cc"), hyphenShare(), 1f / 3f);
        due(hyphened("aa-bb-cc"), hyphenShare(), 2f / 3f);
        due(hyphened("aa bb aa-bb aa bb aa"), hyphenShare(), 1f / 7f);
        due(hyphened("aa-bb-cc-dd"), hyphenShare(), 0.75f);
        due(hyphened("aa bb cc-dd ee ff gg hh ii jj"), hyphenShare(), 0.1f);
        Mill most = Mill.of("-".repeat(49) + "a").line(10).width('-', 10).width('a', 10);
        due(most, hyphenShare(), 49f / 50f);
        due("the share as a number", 1f / 3f, () -> hyphened("aa-bb cc").make().hyphenShare());
    }

    private static void meanBadnesses() {
        says("Promise 39: Returns the mean badness of the lines");
        due(Mill.of("ab"), meanBadness(), 0.0);
        due(Mill.of("a b c").line(19), meanBadness(), 12.0);
        due(Mill.of("aa bb").line(19), meanBadness(), 100.0);
        due(Mill.of("a a aaaa").line(20), meanBadness(), 3200.0);
        due(Mill.of("  aa").line(10), meanBadness(), 5000.0);
        // the last line counts, too
        due(Mill.of("aaaa bb cc").line(19), meanBadness(), 5050.0);
        due(hyphened("aa-bb"), meanBadness(), 0.0);
    }

    private static void meanIsDividedAsDouble() {
        says("Promise 39: the sum divided by their number, both converted to double.");
        due(Mill.of("a b c ddddd").line(27), meanBadness(), 267.5);
        due(hyphened("aa-b aa"), meanBadness(), 10000.0 / 3.0);
        due(hyphened("aa bb cc"), meanBadness(), 20000.0 / 3.0);
        due(Mill.of("a ".repeat(25)).line(10).width('a', 9), meanBadness(), 9600.0);
        due(Mill.of("-".repeat(50)).line(10).width('-', 6), meanBadness(), 9800.0);
        due(hyphened("aa bb cc dd ee ff gg"), meanBadness(), 60000.0 / 7.0);
    }

    private static void refusedWhereNotPossible(String promise, Ask ask) {
        says(promise + " throws `IllegalStateException` if lines are not possible");
        for (Mill mill : new Mill[] {Mill.of("aaa").line(11), Mill.of("aa- [aaa ").line(11), Mill.of("-aaa").line(11)}) {
            refused(mill, ask, STATE);
        }
        due(Mill.of("aaa").line(12), ask, "0.0");
    }

    private static void refusedWithoutLines(String promise, Ask ask) {
        says(promise + " throws `ArithmeticException` if there are no lines");
        for (Mill mill : new Mill[] {Mill.NEW, Mill.of("["), Mill.of(" "), Mill.of(" [ "), Mill.of("-").cut(1),
            Mill.of(" ".repeat(50)).line(10).width(' ', 20)}) {
            refused(mill, ask, ARITHMETIC);
        }
        due(Mill.of(" a"), ask, "0.0");
    }
}
