/** Promises 1 to 10: the text, the widths and the rules. */
public final class TextTest {
    private static final String SHOWN = "abcdefghijklmnopqrstuvwxyzABCDEFGHIJKLMNOPQRSTUVWXYZ0123456789 -,.";
    private static final String LETTERS = SHOWN.substring(0, 52);

    public static void main(String[] args) {
        newObject();
        add();
        addWhenFull();
        addMarks();
        removeLast();
        setWidth();
        setLine();
        setBase();
        addLigature();
        addLigatureTwice();
        addManyLigatures();
        lengthCharAtOpen();
        Check.end();
    }

    private static void newObject() {
        Glyphmill mill = new Glyphmill();
        Check.due("new length", 0, mill::length);
        Check.due("new open", 0, mill::open);
        Check.due("new runs", 0, mill::runs);
        Check.due("new glyphs", 0, mill::glyphs);
        Check.due("new breaks", 0, mill::breaks);
        Check.due("new lines", 0, mill::lines);
        Check.due("new tooWide", -1, mill::tooWide);
        Check.due("new ligature number", Check.ARGUMENT, () -> mill.addLigature(200, 'a', 1));
        Check.due("new setLine", 60, () -> mill.setLine(60));
        Check.due("new setBase", false, () -> mill.setBase(false));
        for (char c : SHOWN.toCharArray()) {
            Check.due("new setWidth " + c, 4, () -> mill.setWidth(c, 4));
        }
        Check.due("new addLigature", 200, () -> mill.addLigature('a', 'b', 1));
        Check.due("another object's length", 0, () -> new Glyphmill().length());
        Check.due("another object's ligature", 200, () -> new Glyphmill().addLigature('a', 'b', 1));
    }

    private static void add() {
        for (char c : SHOWN.toCharArray()) {
            Glyphmill mill = new Glyphmill();
            Check.due("add " + c, 1, () -> mill.add(c));
            Check.due("charAt behind add " + c, c, () -> mill.charAt(0));
            Check.due("add " + c + " again", 2, () -> mill.add(c));
        }
        Glyphmill mill = Check.mill("a");
        for (int code = 0; code <= Character.MAX_VALUE; code++) {
            char c = (char) code;
            if ((SHOWN + "[{}").indexOf(c) < 0) {
                Check.due("add of the code " + code, Check.ARGUMENT, () -> mill.add(c));
            }
        }
        Check.due("length behind wrong adds", 1, mill::length);
        Check.refuses(mill, "add '!'", Check.ARGUMENT, () -> mill.add('!'));
        Check.refuses(mill, "add ']'", Check.ARGUMENT, () -> mill.add(']'));
        Check.refuses(mill, "add (char) 225", Check.ARGUMENT, () -> mill.add((char) 225));
    }

    private static void addWhenFull() {
        Glyphmill mill = Check.mill("[" + "ab1 -".repeat(9) + "xyz");
        Check.due("add of the 50th", 50, () -> mill.add('b'));
        Check.refuses(mill, "add of the 51st", Check.STATE, () -> mill.add('a'));
        Check.refuses(mill, "add of a space behind 50", Check.STATE, () -> mill.add(' '));
        Check.refuses(mill, "add of '}' behind 50", Check.STATE, () -> mill.add('}'));
        Check.refuses(mill, "add of '[' behind 50", Check.STATE, () -> mill.add('['));
        Check.refuses(mill, "add of a wrong character behind 50", Check.ARGUMENT, () -> mill.add('?'));
    }

    private static void addMarks() {
        Glyphmill mill = new Glyphmill();
        Check.refuses(mill, "add '}' in an empty text", Check.STATE, () -> mill.add('}'));
        mill.add('a');
        Check.refuses(mill, "add '}' without an embedding", Check.STATE, () -> mill.add('}'));
        Check.due("add '['", 2, () -> mill.add('['));
        Check.due("add '}'", 3, () -> mill.add('}'));
        Check.refuses(mill, "add '}' once more", Check.STATE, () -> mill.add('}'));
        Check.type(mill, "{[{[{");
        Check.refuses(mill, "add '[' with 5 open", Check.STATE, () -> mill.add('['));
        Check.refuses(mill, "add '{' with 5 open", Check.STATE, () -> mill.add('{'));
        Check.due("add of a letter with 5 open", 9, () -> mill.add('a'));
        Check.due("add '}' with 5 open", 10, () -> mill.add('}'));
        Check.due("add '[' with 4 open", 11, () -> mill.add('['));
        Check.refuses(mill, "add '[' with 5 open again", Check.STATE, () -> mill.add('['));
    }

    private static void removeLast() {
        Glyphmill mill = new Glyphmill();
        Check.refuses(mill, "removeLast of an empty text", Check.NO_ELEMENT, mill::removeLast);
        Check.type(mill, "aB1 -,.[b{c}");
        Check.due("open before", 1, mill::open);
        Check.due("removeLast of '}'", '}', mill::removeLast);
        Check.due("open again", 2, mill::open);
        mill.add('d');
        Check.due("level in the embedding that is open again", 3, () -> mill.embeddingOf(11));
        for (char c : "dc{b[.,- 1Ba".toCharArray()) {
            Check.due("removeLast of " + c, c, mill::removeLast);
        }
        Check.due("length behind all", 0, mill::length);
        Check.due("open behind all", 0, mill::open);
        Check.refuses(mill, "removeLast behind all", Check.NO_ELEMENT, mill::removeLast);
        Glyphmill full = Check.mill("a".repeat(50));
        full.removeLast();
        Check.due("add behind removeLast of a full text", 50, () -> full.add('b'));
        Glyphmill open = Check.mill("[[[[[");
        open.removeLast();
        Check.due("add behind removeLast of an embedding", 5, () -> open.add('{'));
        open.removeLast();
        Check.due("changed answers behind removeLast", "m m m m", () -> Check.levels(open));
    }

    private static void setWidth() {
        Glyphmill mill = Check.mill("aA b");
        Check.due("width of the line", 16, () -> mill.widthOf(0));
        Check.due("setWidth a 20", 4, () -> mill.setWidth('a', 20));
        Check.due("setWidth a 1", 20, () -> mill.setWidth('a', 1));
        Check.due("setWidth A 7", 4, () -> mill.setWidth('A', 7));
        Check.due("setWidth a 1 again", 1, () -> mill.setWidth('a', 1));
        Check.due("setWidth ' ' 3", 4, () -> mill.setWidth(' ', 3));
        Check.due("width of the line behind it", 15, () -> mill.widthOf(0));
        Check.refuses(mill, "setWidth 0", Check.ARGUMENT, () -> mill.setWidth('a', 0));
        Check.refuses(mill, "setWidth 21", Check.ARGUMENT, () -> mill.setWidth('a', 21));
        Check.refuses(mill, "setWidth -1", Check.ARGUMENT, () -> mill.setWidth('a', -1));
        Check.refuses(mill, "setWidth least", Check.ARGUMENT, () -> mill.setWidth('a', Integer.MIN_VALUE));
        Check.refuses(mill, "setWidth most", Check.ARGUMENT, () -> mill.setWidth('a', Integer.MAX_VALUE));
        for (char c : "[{}]!@`/:\0\u007f\u0080\u00e1\uffff".toCharArray()) {
            Check.refuses(mill, "setWidth of the code " + (int) c, Check.ARGUMENT, () -> mill.setWidth(c, 4));
        }
        Check.due("setWidth a behind the wrong ones", 1, () -> mill.setWidth('a', 2));
        for (char c : "-,.09zZ".toCharArray()) {
            Check.due("setWidth " + c, 4, () -> mill.setWidth(c, 9));
            Check.due("setWidth " + c + " again", 9, () -> mill.setWidth(c, 4));
        }
    }

    private static void setLine() {
        Glyphmill mill = Check.mill("aaa bbb");
        Check.due("setLine 10", 60, () -> mill.setLine(10));
        Check.due("lines are too wide for 10", 0, mill::tooWide);
        Check.refuses(mill, "setLine 9", Check.ARGUMENT, () -> mill.setLine(9));
        Check.refuses(mill, "setLine 201", Check.ARGUMENT, () -> mill.setLine(201));
        Check.refuses(mill, "setLine -10", Check.ARGUMENT, () -> mill.setLine(-10));
        Check.refuses(mill, "setLine most", Check.ARGUMENT, () -> mill.setLine(Integer.MAX_VALUE));
        Check.due("setLine 200", 10, () -> mill.setLine(200));
        Check.due("lines fit into 200", 1, mill::lines);
        Check.due("setLine 12", 200, () -> mill.setLine(12));
        Check.due("lines of 12", 2, mill::lines);
    }

    private static void setBase() {
        Glyphmill mill = Check.mill("ab [c");
        Check.due("embeddings from left to right", "0 0 0 m 2", () -> Check.each(mill, mill::embeddingOf));
        Check.due("setBase true", false, () -> mill.setBase(true));
        Check.due("embeddings from right to left", "1 1 1 m 2", () -> Check.each(mill, mill::embeddingOf));
        Check.due("setBase true again", true, () -> mill.setBase(true));
        Check.due("setBase false", true, () -> mill.setBase(false));
        Check.due("setBase false again", false, () -> mill.setBase(false));
        Check.due("embeddings behind it", "0 0 0 m 2", () -> Check.each(mill, mill::embeddingOf));
    }

    private static void addLigature() {
        Glyphmill mill = Check.mill("fil AB");
        for (int first : new int[] {199, 200, 201, 220, 0, -1, '0', ' ', '-', '[', '}', '@', '`', 'f' + 65536,
            Integer.MIN_VALUE, Integer.MAX_VALUE}) {
            Check.refuses(mill, "addLigature first " + first, Check.ARGUMENT, () -> mill.addLigature(first, 'i', 5));
        }
        for (char second : "0 -,.[{}@`\u00e1\u00c8".toCharArray()) {
            Check.refuses(mill, "addLigature second " + (int) second, Check.ARGUMENT,
                    () -> mill.addLigature('f', second, 5));
        }
        for (int width : new int[] {0, 41, -1, Integer.MIN_VALUE, Integer.MAX_VALUE}) {
            Check.refuses(mill, "addLigature width " + width, Check.ARGUMENT, () -> mill.addLigature('f', 'i', width));
        }
        Check.due("addLigature f i 1", 200, () -> mill.addLigature('f', 'i', 1));
        Check.due("addLigature A B 40", 201, () -> mill.addLigature('A', 'B', 40));
        Check.due("addLigature 200 l 2", 202, () -> mill.addLigature(200, 'l', 2));
        Check.refuses(mill, "addLigature 203 l", Check.ARGUMENT, () -> mill.addLigature(203, 'l', 2));
        Check.due("addLigature 202 z 3", 203, () -> mill.addLigature(202, 'z', 3));
        Check.due("the glyphs with them", "202 202 202 32 201 201", () -> Check.each(mill, mill::glyphOf));
        Check.due("the width with them", 46, () -> mill.widthOf(0));
    }

    private static void addLigatureTwice() {
        Glyphmill mill = Check.mill("abab");
        mill.addLigature('a', 'b', 5);
        Check.refuses(mill, "addLigature a b again", Check.STATE, () -> mill.addLigature('a', 'b', 5));
        Check.refuses(mill, "addLigature a b of another width", Check.STATE, () -> mill.addLigature('a', 'b', 6));
        Check.refuses(mill, "addLigature a b of width 41", Check.ARGUMENT, () -> mill.addLigature('a', 'b', 41));
        Check.due("addLigature b a", 201, () -> mill.addLigature('b', 'a', 5));
        Check.due("addLigature a a", 202, () -> mill.addLigature('a', 'a', 5));
        Check.due("addLigature b b", 203, () -> mill.addLigature('b', 'b', 5));
        Check.due("addLigature 200 a", 204, () -> mill.addLigature(200, 'a', 5));
        Check.refuses(mill, "addLigature 200 a again", Check.STATE, () -> mill.addLigature(200, 'a', 9));
        Check.due("addLigature 201 a", 205, () -> mill.addLigature(201, 'a', 5));
    }

    private static void addManyLigatures() {
        Glyphmill mill = Check.mill("aabacad");
        for (int i = 0; i < 20; i++) {
            char second = LETTERS.charAt(i);
            Check.due("addLigature no. " + i, 200 + i, () -> mill.addLigature('a', second, 7));
        }
        Check.refuses(mill, "addLigature no. 20", Check.STATE, () -> mill.addLigature('a', 'z', 7));
        Check.refuses(mill, "addLigature no. 20, twice", Check.STATE, () -> mill.addLigature('a', 'b', 7));
        Check.refuses(mill, "addLigature no. 20 of 219", Check.STATE, () -> mill.addLigature(219, 'b', 7));
        Check.refuses(mill, "addLigature no. 20 of 220", Check.ARGUMENT, () -> mill.addLigature(220, 'b', 7));
        Check.refuses(mill, "addLigature no. 20 of width 0", Check.ARGUMENT, () -> mill.addLigature('a', 'z', 0));
    }

    private static void lengthCharAtOpen() {
        Glyphmill empty = new Glyphmill();
        Check.due("charAt of an empty text", Check.INDEX, () -> empty.charAt(0));
        Glyphmill mill = Check.mill("a[B{ 1}");
        Check.due("length with marks", 7, mill::length);
        Check.due("all characters", "a [ B {   1 }", () -> Check.each(mill, mill::charAt));
        for (int index : new int[] {-1, 7, 50, Integer.MIN_VALUE, Integer.MAX_VALUE}) {
            Check.refuses(mill, "charAt " + index, Check.INDEX, () -> mill.charAt(index));
        }
        Check.due("open", 1, mill::open);
        Check.type(mill, "}");
        Check.due("open behind its end", 0, mill::open);
        Check.type(mill, "[[{[{");
        Check.due("open at the most", 5, mill::open);
        Check.due("length at the most open", 13, mill::length);
    }
}
