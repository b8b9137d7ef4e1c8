import java.util.List;
import java.util.Map;

/** Runs of calls, drawn by a fixed rule of numbers, on the program and on the naive telling of the document. */
public final class ModelTest extends Check {
    private static final String[] KINDS = {
        "abnz  -", "abAB  -1", "abAB12 -,.[{}}", "ABC 12  -.", "aA 1[{}", "fil  -", "ab -AB}{[ ", "a    ", "nopqz-- ",
    };

    private static long seed = 20261119;

    private final Naive naive = new Naive();
    /** One object that is asked between its changes, while others are made anew for all answers. */
    private final Glyphmill live = new Glyphmill();
    private final String signs = KINDS[draw(KINDS.length)];
    private Mill mill = Mill.NEW;

    private static int draw(int bound) {
        seed = seed * 6364136223846793005L + 1442695040888963407L;
        return (int) ((seed >>> 33) % bound);
    }

    public static void main(String[] args) {
        int runs = args.length > 0 ? Integer.parseInt(args[0]) : 600;
        for (int run = 0; run < runs; run++) {
            says("drawn calls, run " + run);
            new ModelTest().play();
        }
        end();
    }

    private void play() {
        int compared = 3 + draw(3);
        for (int c = 0; c < compared; c++) {
            int typed = 1 + draw(22);
            for (int i = 0; i < typed; i++) {
                step();
            }
            String want = naive.everything();
            due("all answers (got but due) of " + mill, "none", () -> firstDifference(everything(mill), want));
            askLive(Naive.byQuestion(want));
        }
    }

    private void askLive(Map<String, String> want) {
        List<Ask> all = questions(mill);
        for (int i = 0; i < 50; i++) {
            Ask ask = all.get(draw(all.size()));
            due(ask + " asked between the calls " + mill, want.get(ask.name()), () -> ask.put(live));
        }
    }

    /** The same change of all: of the naive telling, of the object that is asked, and of those that are made anew. */
    private void change(Ask ask, Object want, boolean isRefused) {
        due(ask + " behind " + mill, want, () -> ask.put(live));
        mill = mill.then(isRefused ? quiet(ask) : ask);
    }

    private void step() {
        switch (draw(24)) {
            case 0 -> {
                boolean isRight = draw(2) == 1;
                change(setBase(isRight), naive.base == 1, false);
                naive.base = isRight ? 1 : 0;
            }
            case 1 -> {
                int width = draw(4) == 0 ? 10 + draw(191) : 10 + draw(40);
                change(setLine(width), naive.lineWidth, false);
                naive.lineWidth = width;
            }
            case 2 -> {
                char c = draw(2) == 0 ? ' ' : signs.charAt(draw(signs.length()));
                int width = 1 + draw(8);
                boolean isRefused = Naive.mark(c);
                change(setWidth(c, width), isRefused ? ARGUMENT : naive.widths.getOrDefault(c, 4), isRefused);
                if (!isRefused) {
                    naive.widths.put(c, width);
                }
            }
            case 3 -> stepOfLigature();
            case 4 -> {
                int size = naive.text.length();
                change(removeLast(), size == 0 ? NO_ELEMENT : naive.text.charAt(size - 1), size == 0);
                naive.text = naive.text.substring(0, Math.max(0, size - 1));
            }
            default -> {
                char c = signs.charAt(draw(signs.length()));
                boolean isRefused = naive.text.length() == 50 || c == '}' && naive.open() == 0
                        || (c == '[' || c == '{') && naive.open() == 5;
                change(add(c), isRefused ? STATE : naive.text.length() + 1, isRefused);
                naive.text += isRefused ? "" : c;
            }
        }
    }

    private void stepOfLigature() {
        int first = draw(3) == 0 ? 200 + draw(naive.rules.size() + 1) : signs.charAt(draw(signs.length()));
        char second = signs.charAt(draw(signs.length()));
        int width = 1 + draw(9);
        boolean known = first >= 200 && first < 200 + naive.rules.size()
                || first < 200 && (Naive.left((char) first) || Naive.right((char) first));
        boolean isWrong = !known || !Naive.left(second) && !Naive.right(second);
        boolean isRefused = naive.rules.size() == 20 || naive.rule(first, second) >= 0;
        Object want = isWrong ? ARGUMENT : isRefused ? STATE : 200 + naive.rules.size();
        change(addLigature(first, second, width), want, isWrong || isRefused);
        if (!isWrong && !isRefused) {
            naive.rules.add(new int[] {first, second, width});
        }
    }
}
