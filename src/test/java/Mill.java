import java.util.ArrayList;
import java.util.List;

/**
 * How an object of a test is made. A test makes the object anew for each question or few, so that none gets past its
 * 512th call: the document says nothing of what comes behind that.
 */
final class Mill {
    static final int MOST_CALLS = 512;
    static final Mill NEW = new Mill(List.of());

    private final List<Ask> deeds;

    private Mill(List<Ask> deeds) {
        this.deeds = deeds;
    }

    static Mill of(String text) {
        return NEW.type(text);
    }

    /** A text that runs from right to left. */
    static Mill right(String text) {
        return NEW.base(true).type(text);
    }

    Mill then(Ask... more) {
        List<Ask> all = new ArrayList<>(deeds);
        all.addAll(List.of(more));
        return new Mill(all);
    }

    Mill type(String text) {
        Mill mill = this;
        for (char c : text.toCharArray()) {
            mill = mill.then(Check.add(c));
        }
        return mill;
    }

    Mill base(boolean isRight) {
        return then(Check.setBase(isRight));
    }

    Mill line(int width) {
        return then(Check.setLine(width));
    }

    Mill width(char character, int width) {
        return then(Check.setWidth(character, width));
    }

    Mill rule(int first, char second, int width) {
        return then(Check.addLigature(first, second, width));
    }

    Mill cut(int times) {
        Mill mill = this;
        for (int i = 0; i < times; i++) {
            mill = mill.then(Check.removeLast());
        }
        return mill;
    }

    int calls() {
        return deeds.size();
    }

    Glyphmill make() {
        Glyphmill mill = new Glyphmill();
        for (Ask deed : deeds) {
            deed.put(mill);
        }
        return mill;
    }

    /** The calls one behind the other, those that come several times with their number. */
    @Override
    public String toString() {
        StringBuilder all = new StringBuilder("new");
        for (int i = 0; i < deeds.size(); ) {
            int end = i + 1;
            while (end < deeds.size() && deeds.get(end).name().equals(deeds.get(i).name())) {
                end++;
            }
            all.append(' ').append(deeds.get(i)).append(end > i + 1 ? " x" + (end - i) : "");
            i = end;
        }
        return all.toString();
    }
}
