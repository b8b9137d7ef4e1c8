/** Long runs of calls, drawn by a fixed rule of numbers, on the program and on the naive telling of the document. */
public final class ModelTest {
    private static final String[] KINDS = {
        "abnz  -", "abAB  -1", "abAB12 -,.[{}}", "ABC 12  -.", "aA 1[{}", "fil  -", "ab -AB}{[ ", "a    ", "nopqz-- ",
    };

    private static long seed = 20261119;

    private static int draw(int bound) {
        seed = seed * 6364136223846793005L + 1442695040888963407L;
        return (int) ((seed >>> 33) % bound);
    }

    public static void main(String[] args) {
        int runs = args.length > 0 ? Integer.parseInt(args[0]) : 600;
        for (int run = 0; run < runs; run++) {
            oneRun(run);
        }
        Check.end();
    }

    private static void oneRun(int run) {
        Glyphmill mill = new Glyphmill();
        Naive naive = new Naive();
        StringBuilder calls = new StringBuilder();
        String signs = KINDS[draw(KINDS.length)];
        int compared = 3 + draw(3);
        for (int c = 0; c < compared; c++) {
            int typed = 1 + draw(22);
            for (int i = 0; i < typed; i++) {
                step(mill, naive, calls, signs);
            }
            String want = naive.everything();
            String got = Check.everything(mill);
            String where = "run " + run + " behind" + calls + " (got but due) ";
            Check.due(where, "none", () -> Check.firstDifference(got, want));
        }
    }

    private static void step(Glyphmill mill, Naive naive, StringBuilder calls, String signs) {
        switch (draw(24)) {
            case 0 -> {
                boolean isRight = draw(2) == 1;
                calls.append(" setBase ").append(isRight);
                Check.due("setBase" + calls, naive.base == 1, () -> mill.setBase(isRight));
                naive.base = isRight ? 1 : 0;
            }
            case 1 -> {
                int width = draw(4) == 0 ? 10 + draw(191) : 10 + draw(40);
                calls.append(" setLine ").append(width);
                Check.due("setLine" + calls, naive.lineWidth, () -> mill.setLine(width));
                naive.lineWidth = width;
            }
            case 2 -> {
                char c = draw(2) == 0 ? ' ' : signs.charAt(draw(signs.length()));
                int width = 1 + draw(8);
                calls.append(" setWidth ").append(c).append(width);
                String want = Naive.mark(c) ? Check.ARGUMENT : "" + naive.widths.getOrDefault(c, 4);
                Check.due("setWidth" + calls, want, () -> mill.setWidth(c, width));
                if (!Naive.mark(c)) {
                    naive.widths.put(c, width);
                }
            }
            case 3 -> addLigature(mill, naive, calls, signs);
            case 4 -> {
                calls.append(" removeLast");
                int size = naive.text.length();
                Check.due("removeLast" + calls, size == 0 ? Check.NO_ELEMENT : naive.text.substring(size - 1),
                        mill::removeLast);
                naive.text = naive.text.substring(0, Math.max(0, size - 1));
            }
            default -> {
                char c = signs.charAt(draw(signs.length()));
                calls.append(" '").append(c).append("'");
                boolean full = naive.text.length() == 50 || c == '}' && naive.open() == 0
                        || (c == '[' || c == '{') && naive.open() == 5;
                Check.due("add" + calls, full ? Check.STATE : "" + (naive.text.length() + 1), () -> mill.add(c));
                naive.text += full ? "" : c;
            }
        }
    }

    private static void addLigature(Glyphmill mill, Naive naive, StringBuilder calls, String signs) {
        int first = draw(3) == 0 ? 200 + draw(naive.rules.size() + 1) : signs.charAt(draw(signs.length()));
        char second = signs.charAt(draw(signs.length()));
        int width = 1 + draw(9);
        calls.append(" addLigature ").append(first).append(second).append(width);
        boolean known = first >= 200 && first < 200 + naive.rules.size()
                || first < 200 && (Naive.left((char) first) || Naive.right((char) first));
        boolean isWrong = !known || !Naive.left(second) && !Naive.right(second);
        boolean isRefused = naive.rules.size() == 20 || naive.rule(first, second) >= 0;
        String want = isWrong ? Check.ARGUMENT : isRefused ? Check.STATE : "" + (200 + naive.rules.size());
        Check.due("addLigature" + calls, want, () -> mill.addLigature(first, second, width));
        if (!isWrong && !isRefused) {
            naive.rules.add(new int[] {first, second, width});
        }
    }
}
