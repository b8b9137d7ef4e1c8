/** The example of README.md: its answers are right. */
public final class ReadmeTest extends Check {
    public static void main(String[] args) {
        says("README.md, Use");
        Glyphmill mill = new Glyphmill();
        due("addLigature", 200, () -> mill.addLigature('f', 'i', 5));
        due("setLine", 60, () -> mill.setLine(30));
        for (char c : "a fin AB 12".toCharArray()) {
            mill.add(c);
        }
        due("lines", 2, mill::lines);
        due("firstOf", 9, () -> mill.firstOf(1));
        due("glyphOf", 200, () -> mill.glyphOf(3));
        due("rankOf", 6, () -> mill.rankOf(6));
        due("placeOf", 26, () -> mill.placeOf(6));
        due("lineOf of no such index", INDEX, () -> mill.lineOf(11));
        end();
    }
}
