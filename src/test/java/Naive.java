import java.math.BigInteger;
import java.util.ArrayList;
import java.util.HashMap;
import java.util.List;
import java.util.Map;
import java.util.NoSuchElementException;

/**
 * The document told once more, as plainly and as slowly as its words go: every answer is found anew from the
 * definition of the term. ModelTest compares the program with it.
 */
final class Naive {
    String text = "";
    int base = 0;
    int lineWidth = 60;
    final Map<Character, Integer> widths = new HashMap<>();
    final List<int[]> rules = new ArrayList<>();

    private List<List<Integer>> lines;
    private long least;
    /** What was found since the text or a setting changed, kept by the question's words. */
    private final Map<Object, Object> found = new HashMap<>();

    private interface Finder {
        Object find();
    }

    private Object once(Object question, Finder finder) {
        if (!found.containsKey(question)) {
            Object answer = finder.find();
            found.put(question, answer);
        }
        return found.get(question);
    }

    // ---- neighbours

    static boolean mark(char c) {
        return "[{}".indexOf(c) >= 0;
    }

    static boolean neutral(char c) {
        return " -,.".indexOf(c) >= 0;
    }

    static boolean digit(char c) {
        return "0123456789".indexOf(c) >= 0;
    }

    static boolean left(char c) {
        return "abcdefghijklmnopqrstuvwxyz".indexOf(c) >= 0;
    }

    static boolean right(char c) {
        return "ABCDEFGHIJKLMNOPQRSTUVWXYZ".indexOf(c) >= 0;
    }

    char at(int i) {
        return text.charAt(i);
    }

    /** The neighbour ahead of it, or -1. */
    int ahead(int i) {
        int j = i - 1;
        while (j >= 0 && mark(at(j))) {
            j--;
        }
        return j;
    }

    /** The neighbour behind it, or -1. */
    int behind(int i) {
        for (int j = i + 1; j < text.length(); j++) {
            if (!mark(at(j))) {
                return j;
            }
        }
        return -1;
    }

    int open() {
        int n = 0;
        for (char c : text.toCharArray()) {
            n += c == '[' || c == '{' ? 1 : c == '}' ? -1 : 0;
        }
        return n;
    }

    // ---- levels

    int embeddingOf(int i) {
        return (Integer) once("embedding" + i, () -> embeddingByStack(i));
    }

    private int embeddingByStack(int i) {
        List<Integer> stack = new ArrayList<>(List.of(base));
        for (char c : text.substring(0, i).toCharArray()) {
            int inner = stack.get(stack.size() - 1);
            if (c == '[') {
                stack.add(inner % 2 == 0 ? inner + 2 : inner + 1);
            } else if (c == '{') {
                stack.add(inner % 2 == 1 ? inner + 2 : inner + 1);
            } else if (c == '}') {
                stack.remove(stack.size() - 1);
            }
        }
        return stack.get(stack.size() - 1);
    }

    List<Integer> stretch(int i) {
        int first = i;
        while (ahead(first) >= 0 && embeddingOf(ahead(first)) == embeddingOf(i)) {
            first = ahead(first);
        }
        List<Integer> found = new ArrayList<>();
        for (int j = first; j >= 0 && embeddingOf(j) == embeddingOf(i); j = behind(j)) {
            found.add(j);
        }
        return found;
    }

    boolean startsRight(int i) {
        int out = ahead(stretch(i).get(0));
        return Math.max(embeddingOf(i), out >= 0 ? embeddingOf(out) : base) % 2 == 1;
    }

    boolean endsRight(int i) {
        List<Integer> s = stretch(i);
        int out = behind(s.get(s.size() - 1));
        return Math.max(embeddingOf(i), out >= 0 ? embeddingOf(out) : base) % 2 == 1;
    }

    /** 'L', 'R' or 'N' for a number; of a neutral one the direction that it gets. */
    char kind(int i) {
        return (Character) once("kind" + i, () -> kindByNeighbours(i));
    }

    private char kindByNeighbours(int i) {
        if (left(at(i)) || right(at(i))) {
            return left(at(i)) ? 'L' : 'R';
        }
        List<Integer> s = stretch(i);
        int where = s.indexOf(i);
        if (digit(at(i))) {
            for (int k = where - 1; k >= 0; k--) {
                if (left(at(s.get(k))) || right(at(s.get(k)))) {
                    return left(at(s.get(k))) ? 'L' : 'N';
                }
            }
            return startsRight(i) ? 'N' : 'L';
        }
        int k = where;
        while (k >= 0 && neutral(at(s.get(k)))) {
            k--;
        }
        boolean one = k < 0 ? startsRight(i) : kind(s.get(k)) != 'L';
        k = where;
        while (k < s.size() && neutral(at(s.get(k)))) {
            k++;
        }
        boolean other = k == s.size() ? endsRight(i) : kind(s.get(k)) != 'L';
        boolean isRight = one == other ? one : embeddingOf(i) % 2 == 1;
        return isRight ? 'R' : 'L';
    }

    int levelOf(int i) {
        int e = embeddingOf(i);
        char kind = kind(i);
        if (e % 2 == 0) {
            return kind == 'L' ? e : kind == 'R' ? e + 1 : e + 2;
        }
        return kind == 'R' ? e : e + 1;
    }

    // ---- scripts, runs, glyphs

    int scriptOf(int i) {
        return (Integer) once("script" + i, () -> scriptByLetters(i));
    }

    private int scriptByLetters(int i) {
        for (int j = i; j >= 0; j--) {
            if (left(at(j)) || right(at(j))) {
                return right(at(j)) ? 2 : at(j) > 'm' ? 1 : 0;
            }
        }
        for (int j = i; j < text.length(); j++) {
            if (left(at(j)) || right(at(j))) {
                return right(at(j)) ? 2 : at(j) > 'm' ? 1 : 0;
            }
        }
        return 0;
    }

    boolean beginsRun(int i) {
        int a = ahead(i);
        return a < 0 || levelOf(a) != levelOf(i) || scriptOf(a) != scriptOf(i);
    }

    int runOf(int i) {
        int n = -1;
        for (int j = 0; j <= i; j++) {
            if (!mark(at(j)) && beginsRun(j)) {
                n++;
            }
        }
        return n;
    }

    int rule(int first, char second) {
        for (int r = 0; r < rules.size(); r++) {
            if (rules.get(r)[0] == first && rules.get(r)[1] == second) {
                return 200 + r;
            }
        }
        return -1;
    }

    /** Each glyph: its number, and then the indices of its characters. */
    List<List<Integer>> glyphList() {
        List<List<Integer>> found = new ArrayList<>();
        for (int i = 0; i < text.length(); i++) {
            if (mark(at(i))) {
                continue;
            }
            if (!beginsRun(i)) {
                List<Integer> last = found.get(found.size() - 1);
                int ligature = rule(last.get(0), at(i));
                if (ligature >= 0) {
                    last.set(0, ligature);
                    last.add(i);
                    continue;
                }
            }
            found.add(new ArrayList<>(List.of((int) at(i), i)));
        }
        return found;
    }

    List<Integer> glyphAround(int i) {
        for (List<Integer> g : allGlyphs) {
            if (g.subList(1, g.size()).contains(i)) {
                return g;
            }
        }
        return null;
    }

    int glyphWidth(List<Integer> g) {
        int n = g.get(0);
        return n >= 200 ? rules.get(n - 200)[2] : widths.getOrDefault((char) n, 4);
    }

    // ---- breaks and lines; a line is the list of its characters that are no marks

    List<Integer> breakList() {
        List<Integer> found = new ArrayList<>();
        for (int i = 0; i < text.length(); i++) {
            int a = ahead(i);
            if (!mark(at(i)) && at(i) != ' ' && a >= 0 && (at(a) == ' ' || at(a) == '-')) {
                found.add(i);
            }
        }
        return found;
    }

    List<Integer> piece(int from, int to) {
        List<Integer> found = new ArrayList<>();
        for (int i = from; i < to; i++) {
            if (!mark(at(i))) {
                found.add(i);
            }
        }
        return found;
    }

    boolean blank() {
        return text.chars().allMatch(c -> c == ' ' || mark((char) c));
    }

    List<Integer> kept(List<Integer> line) {
        int size = line.size();
        while (size > 0 && at(line.get(size - 1)) == ' ') {
            size--;
        }
        return line.subList(0, size);
    }

    List<List<Integer>> glyphsIn(List<Integer> line) {
        List<List<Integer>> found = new ArrayList<>();
        for (List<Integer> g : allGlyphs) {
            if (kept(line).contains(g.get(1))) {
                found.add(g);
            }
        }
        return found;
    }

    private List<List<Integer>> allGlyphs;

    int natural(List<Integer> line) {
        return (Integer) once(line, () -> sumOfWidths(line));
    }

    private int sumOfWidths(List<Integer> line) {
        int sum = 0;
        for (List<Integer> g : glyphsIn(line)) {
            sum += glyphWidth(g);
        }
        return sum;
    }

    int spaces(List<Integer> line) {
        int n = 0;
        for (int i : kept(line)) {
            n += at(i) == ' ' ? 1 : 0;
        }
        return n;
    }

    boolean possible(List<Integer> line) {
        int d = lineWidth - natural(line);
        return d >= 0 || d >= -spaces(line);
    }

    boolean hyphen(List<Integer> line) {
        return at(line.get(line.size() - 1)) == '-';
    }

    int badness(List<Integer> line, boolean isLast) {
        int d = lineWidth - natural(line);
        int k = spaces(line);
        if (isLast && d >= 0 || d == 0) {
            return 0;
        }
        if (k == 0) {
            return 10000;
        }
        BigInteger cube = BigInteger.valueOf(Math.abs(d)).pow(3).multiply(BigInteger.valueOf(100));
        BigInteger divisor = BigInteger.valueOf(d > 0 ? 2 * k : k).pow(3);
        return cube.divide(divisor).min(BigInteger.valueOf(10000)).intValue();
    }

    long demeritsOf(List<Integer> line, List<Integer> before, boolean isLast) {
        long b = 1 + badness(line, isLast);
        long sum = b * b;
        if (!isLast && hyphen(line)) {
            sum += 2500;
            if (before != null && hyphen(before)) {
                sum += 3000;
            }
        }
        return sum;
    }

    private List<Integer> cuts;
    private Map<Integer, Object[]> known;

    /** The best ends of lines from this place on: their demerits, and the list of the places where lines end. */
    private Object[] bestFrom(int from) {
        if (from == cuts.size() - 1) {
            return new Object[] {0L, new ArrayList<Integer>()};
        }
        if (known.containsKey(from)) {
            return known.get(from);
        }
        Object[] best = null;
        for (int to = from + 1; to < cuts.size(); to++) {
            List<Integer> line = piece(cuts.get(from), cuts.get(to));
            List<Integer> before = from > 0 ? piece(0, cuts.get(from)) : null;
            if (!possible(line)) {
                continue;
            }
            Object[] rest = bestFrom(to);
            long sum = (Long) rest[0] + demeritsOf(line, before, to == cuts.size() - 1);
            List<Integer> ends = new ArrayList<>(List.of(to));
            ends.addAll(ends(rest));
            if (best == null || better(sum, ends, (Long) best[0], ends(best))) {
                best = new Object[] {sum, ends};
            }
        }
        known.put(from, best);
        return best;
    }

    @SuppressWarnings("unchecked")
    private static List<Integer> ends(Object[] way) {
        return (List<Integer>) way[1];
    }

    private static boolean better(long sum, List<Integer> ends, long otherSum, List<Integer> otherEnds) {
        if (sum != otherSum) {
            return sum < otherSum;
        }
        if (ends.size() != otherEnds.size()) {
            return ends.size() < otherEnds.size();
        }
        for (int i = 0; i < ends.size(); i++) {
            if (!ends.get(i).equals(otherEnds.get(i))) {
                return ends.get(i) < otherEnds.get(i);
            }
        }
        return false;
    }

    /** All sets of break places, one by one: the same as bestFrom(0). */
    private Object[] bestOfAll() {
        Object[] best = null;
        int inner = cuts.size() - 2;
        for (int set = 0; set < 1 << inner; set++) {
            List<Integer> ends = new ArrayList<>();
            for (int b = 0; b < inner; b++) {
                if ((set >> b & 1) == 1) {
                    ends.add(b + 1);
                }
            }
            ends.add(cuts.size() - 1);
            long sum = 0;
            int from = 0;
            List<Integer> before = null;
            boolean fits = true;
            for (int to : ends) {
                List<Integer> line = piece(cuts.get(from), cuts.get(to));
                fits = fits && possible(line);
                sum += demeritsOf(line, before, to == cuts.size() - 1);
                before = line;
                from = to;
            }
            if (fits && (best == null || better(sum, ends, (Long) best[0], ends(best)))) {
                best = new Object[] {sum, ends};
            }
        }
        return best;
    }

    private int tooWide;
    private int excess;

    private void breakIntoLines() {
        found.clear();
        allGlyphs = glyphList();
        lines = new ArrayList<>();
        least = 0;
        tooWide = -1;
        excess = 0;
        cuts = new ArrayList<>(List.of(0));
        cuts.addAll(breakList());
        cuts.add(text.length());
        if (blank()) {
            return;
        }
        for (int p = cuts.size() - 2; p >= 0; p--) {
            List<Integer> part = piece(cuts.get(p), cuts.get(p + 1));
            if (!possible(part)) {
                tooWide = part.get(0);
                excess = natural(part) - lineWidth;
            }
        }
        if (tooWide >= 0) {
            return;
        }
        known = new HashMap<>();
        Object[] best = bestFrom(0);
        if (cuts.size() <= 8) {
            Object[] again = bestOfAll();
            if (!best[0].equals(again[0]) || !best[1].equals(again[1])) {
                throw new IllegalStateException("the model differs from itself: " + text);
            }
        }
        least = (Long) best[0];
        int from = 0;
        for (int to : ends(best)) {
            lines.add(piece(cuts.get(from), cuts.get(to)));
            from = to;
        }
    }

    int firstFit() {
        int n = 0;
        int from = 0;
        while (from < cuts.size() - 1 && !blank()) {
            int to = from + 1;
            while (to + 1 < cuts.size() && natural(piece(cuts.get(from), cuts.get(to + 1))) <= lineWidth) {
                to++;
            }
            n++;
            from = to;
        }
        return n;
    }

    int lineOf(int i) {
        for (int l = 0; l < lines.size(); l++) {
            if (lines.get(l).contains(i)) {
                return l;
            }
        }
        throw new NoSuchElementException();
    }

    // ---- visual order and justification

    /** From the highest level down, as the words go; each entry is a glyph. */
    @SuppressWarnings("unchecked")
    List<List<Integer>> visual(List<Integer> line) {
        return (List<List<Integer>>) once("visual" + line, () -> visualByTurning(line));
    }

    private List<List<Integer>> visualByTurning(List<Integer> line) {
        List<List<Integer>> order = new ArrayList<>(glyphsIn(line));
        for (int level = 20; level >= 1; level--) {
            List<List<Integer>> next = new ArrayList<>();
            List<List<Integer>> turned = new ArrayList<>();
            for (List<Integer> g : order) {
                if (levelOf(g.get(1)) >= level) {
                    turned.add(0, g);
                } else {
                    next.addAll(turned);
                    turned.clear();
                    next.add(g);
                }
            }
            next.addAll(turned);
            order = next;
        }
        return order;
    }

    int[] placeAndWidth(int line, int rank) {
        List<Integer> chars = lines.get(line);
        int d = lineWidth - natural(chars);
        int k = spaces(chars);
        boolean justified = k > 0 && (d < 0 || line < lines.size() - 1);
        int place = justified ? 0 : base == 0 ? 0 : d;
        int seen = 0;
        int r = 0;
        for (List<Integer> g : visual(chars)) {
            int width = glyphWidth(g);
            if (justified && g.get(0) == ' ') {
                int size = Math.abs(d) / k + (seen < Math.abs(d) % k ? 1 : 0);
                width += d < 0 ? -size : size;
                seen++;
            }
            if (r == rank) {
                return new int[] {place, width};
            }
            place += width;
            r++;
        }
        throw new IllegalStateException();
    }

    int rankOf(int i) {
        List<Integer> g = glyphAround(i);
        int rank = visual(lines.get(lineOf(i))).indexOf(g);
        if (rank < 0) {
            throw new NoSuchElementException();
        }
        return rank;
    }

    // ---- all answers, in the form of Check.everything

    String everything() {
        breakIntoLines();
        StringBuilder all = new StringBuilder();
        tell(all, "length()", () -> text.length());
        tell(all, "open()", this::open);
        tell(all, "runs()", () -> {
            int n = 0;
            for (int i = 0; i < text.length(); i++) {
                n += !mark(at(i)) && beginsRun(i) ? 1 : 0;
            }
            return n;
        });
        tell(all, "glyphs()", () -> allGlyphs.size());
        tell(all, "breaks()", () -> breakList().size());
        tell(all, "tooWide()", () -> tooWide);
        tell(all, "excess()", () -> excess);
        tell(all, "lines()", () -> needLines().size());
        tell(all, "linesByFirstFit()", () -> needLines() == null ? 0 : firstFit());
        tell(all, "demerits()", () -> needLines() == null ? 0 : least);
        tell(all, "demeritsByTrying()", () -> few() == null ? 0 : least);
        tell(all, "linesByTrying()", () -> few().size());
        tell(all, "hyphenShare()", () -> {
            int n = 0;
            for (List<Integer> line : some()) {
                n += hyphen(line) ? 1 : 0;
            }
            return (float) n / (float) lines.size();
        });
        tell(all, "meanBadness()", () -> {
            int sum = 0;
            for (int l = 0; l < some().size(); l++) {
                sum += badness(lines.get(l), l == lines.size() - 1);
            }
            return (double) sum / (double) lines.size();
        });
        for (int i = -1; i <= text.length(); i++) {
            tellIndex(all, i);
        }
        for (int r = -1; r <= breakList().size(); r++) {
            int rank = r;
            tell(all, "breakAt(" + r + ")", () -> breakList().get(rank));
        }
        int size = tooWide == -1 ? lines.size() : 1;
        for (int l = -1; l <= size; l++) {
            tellLine(all, l);
        }
        return all.toString().replace("ArrayIndexOutOfBounds", "IndexOutOfBounds")
                .replace("StringIndexOutOfBounds", "IndexOutOfBounds");
    }

    /** The answers of such a telling, each by its question. */
    static Map<String, String> byQuestion(String everything) {
        Map<String, String> answers = new HashMap<>();
        for (String line : everything.split("\n")) {
            int sign = line.indexOf(" = ");
            answers.put(line.substring(0, sign), line.substring(sign + 3));
        }
        return answers;
    }

    private static void tell(StringBuilder all, String what, Check.Call call) {
        Check.tell(all, what, Check.answer(call));
    }

    private void tellIndex(StringBuilder all, int i) {
        tell(all, "charAt(" + i + ")", () -> at(i));
        tell(all, "embeddingOf(" + i + ")", () -> embeddingOf(shown(i)));
        tell(all, "levelOf(" + i + ")", () -> levelOf(shown(i)));
        tell(all, "scriptOf(" + i + ")", () -> scriptOf(shown(i)));
        tell(all, "runOf(" + i + ")", () -> runOf(shown(i)));
        tell(all, "glyphOf(" + i + ")", () -> glyphAround(shown(i)).get(0));
        tell(all, "glyphStart(" + i + ")", () -> glyphAround(shown(i)).get(1));
        tell(all, "lineOf(" + i + ")", () -> lineOf(lined(i)));
        tell(all, "rankOf(" + i + ")", () -> rankOf(lined(i)));
        tell(all, "rankByCounting(" + i + ")", () -> rankOf(lined(i)));
        tell(all, "placeOf(" + i + ")", () -> placeAndWidth(lineOf(lined(i)), rankOf(i))[0]);
        tell(all, "justifiedWidth(" + i + ")", () -> placeAndWidth(lineOf(lined(i)), rankOf(i))[1]);
    }

    private void tellLine(StringBuilder all, int l) {
        tell(all, "firstOf(" + l + ")", () -> needLines().get(l).get(0));
        tell(all, "widthOf(" + l + ")", () -> natural(needLines().get(l)));
        tell(all, "badnessOf(" + l + ")", () -> badness(needLines().get(l), l == lines.size() - 1));
        tell(all, "glyphsOf(" + l + ")", () -> visual(needLines().get(l)).size());
        int ranks = l >= 0 && l < lines.size() ? visual(lines.get(l)).size() : 0;
        for (int r = -1; r <= ranks; r++) {
            int rank = r;
            tell(all, "glyphAt(" + l + ", " + r + ")", () -> visual(needLines().get(l)).get(rank).get(1));
        }
    }

    private int shown(int i) {
        if (mark(at(i))) {
            throw new UnsupportedOperationException();
        }
        return i;
    }

    private int lined(int i) {
        shown(i);
        needLines();
        return i;
    }

    private List<List<Integer>> needLines() {
        if (tooWide >= 0) {
            throw new IllegalStateException();
        }
        return lines;
    }

    private List<List<Integer>> few() {
        needLines();
        if (breakList().size() > 9) {
            throw new UnsupportedOperationException();
        }
        return lines;
    }

    private List<List<Integer>> some() {
        if (needLines().isEmpty()) {
            throw new ArithmeticException();
        }
        return lines;
    }
}
