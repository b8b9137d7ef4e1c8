import java.lang.reflect.Constructor;
import java.lang.reflect.Field;
import java.lang.reflect.Method;
import java.lang.reflect.Modifier;
import java.util.ArrayList;
import java.util.List;

/** What 'The public face' says, and the rules of LANGUAGE.md that can be read off the compiled class. */
public final class FaceTest extends Check {
    /** The document's words, without the names of the parameters. */
    private static final String METHODS = """
            int add(char) throws IllegalArgumentException, IllegalStateException
            char removeLast() throws NoSuchElementException
            int setWidth(char, int) throws IllegalArgumentException
            int setLine(int) throws IllegalArgumentException
            boolean setBase(boolean)
            int addLigature(int, char, int) throws IllegalArgumentException, IllegalStateException
            int length()
            char charAt(int) throws IndexOutOfBoundsException
            int open()
            int embeddingOf(int) throws IndexOutOfBoundsException, UnsupportedOperationException
            int levelOf(int) throws IndexOutOfBoundsException, UnsupportedOperationException
            int scriptOf(int) throws IndexOutOfBoundsException, UnsupportedOperationException
            int runOf(int) throws IndexOutOfBoundsException, UnsupportedOperationException
            int runs()
            int glyphOf(int) throws IndexOutOfBoundsException, UnsupportedOperationException
            int glyphStart(int) throws IndexOutOfBoundsException, UnsupportedOperationException
            int glyphs()
            int breaks()
            int breakAt(int) throws IndexOutOfBoundsException
            int tooWide()
            int excess()
            int lines() throws IllegalStateException
            int linesByFirstFit() throws IllegalStateException
            int firstOf(int) throws IllegalStateException, IndexOutOfBoundsException
            int lineOf(int) throws INDEX_MARK, IllegalStateException, NoSuchElementException
            int widthOf(int) throws IllegalStateException, IndexOutOfBoundsException
            int badnessOf(int) throws IllegalStateException, IndexOutOfBoundsException
            long demerits() throws IllegalStateException
            long demeritsByTrying() throws IllegalStateException, UnsupportedOperationException
            int linesByTrying() throws IllegalStateException, UnsupportedOperationException
            int glyphsOf(int) throws IllegalStateException, IndexOutOfBoundsException
            int glyphAt(int, int) throws IllegalStateException, IndexOutOfBoundsException
            int rankOf(int) throws INDEX_MARK, IllegalStateException, NoSuchElementException
            int rankByCounting(int) throws INDEX_MARK, IllegalStateException, NoSuchElementException
            int placeOf(int) throws INDEX_MARK, IllegalStateException, NoSuchElementException
            int justifiedWidth(int) throws INDEX_MARK, IllegalStateException, NoSuchElementException
            float hyphenShare() throws IllegalStateException, ArithmeticException
            double meanBadness() throws IllegalStateException, ArithmeticException
            """.replace("INDEX_MARK", "IndexOutOfBoundsException, UnsupportedOperationException");

    public static void main(String[] args) {
        theClass();
        theConstructor();
        theMethods();
        nothingElse();
        noPublicNameTwice();
        staticFields();
        sizes();
        end();
    }

    private static void theClass() {
        says("public final class Glyphmill");
        due("modifiers", "public final", () -> Modifier.toString(Glyphmill.class.getModifiers()));
        due("package", "", Glyphmill.class::getPackageName);
        due("superclass", "Object", () -> Glyphmill.class.getSuperclass().getSimpleName());
        due("interfaces", 0, () -> Glyphmill.class.getInterfaces().length);
    }

    private static void theConstructor() {
        says("public Glyphmill();");
        Constructor<?>[] all = Glyphmill.class.getDeclaredConstructors();
        due("constructors", 1, () -> all.length);
        due("constructor", "public Glyphmill()", () -> all[0].toGenericString());
    }

    private static void theMethods() {
        for (String line : METHODS.split("\n")) {
            says("The public face: " + line);
            String name = line.substring(line.indexOf(' ') + 1, line.indexOf('('));
            List<String> found = new ArrayList<>();
            for (Method method : Glyphmill.class.getDeclaredMethods()) {
                if (method.getName().equals(name)) {
                    found.add(Modifier.toString(method.getModifiers()) + " " + told(method));
                }
            }
            due(name, "[public " + line + "]", found::toString);
        }
    }

    private static String told(Method method) {
        String all = method.getReturnType().getSimpleName() + " " + method.getName()
                + "(" + names(method.getParameterTypes()) + ")";
        String thrown = names(method.getExceptionTypes());
        return thrown.isEmpty() ? all : all + " throws " + thrown;
    }

    private static String names(Class<?>[] types) {
        List<String> names = new ArrayList<>();
        for (Class<?> type : types) {
            names.add(type.getSimpleName());
        }
        return String.join(", ", names);
    }

    private static void nothingElse() {
        says("LANGUAGE.md, rule 1: no other public, protected or package-visible member, but for the classes inside it");
        for (Method method : Glyphmill.class.getDeclaredMethods()) {
            boolean isOfFace = publicNames().contains(method.getName());
            due(told(method) + " is private", !isOfFace, () -> Modifier.isPrivate(method.getModifiers()));
        }
        for (Field field : Glyphmill.class.getDeclaredFields()) {
            due(field.getName() + " is private", true, () -> Modifier.isPrivate(field.getModifiers()));
        }
        for (Class<?> inside : Glyphmill.class.getDeclaredClasses()) {
            due(inside + " is static", true, () -> Modifier.isStatic(inside.getModifiers()));
            due(inside + " is public or protected", false, () -> Modifier.isPublic(inside.getModifiers())
                    || Modifier.isProtected(inside.getModifiers()));
        }
    }

    private static List<String> publicNames() {
        List<String> names = new ArrayList<>();
        for (String line : METHODS.split("\n")) {
            names.add(line.substring(line.indexOf(' ') + 1, line.indexOf('(')));
        }
        return names;
    }

    private static void noPublicNameTwice() {
        says("LANGUAGE.md, rule 1: No private method bears the name of a public one.");
        for (Class<?> inside : Glyphmill.class.getDeclaredClasses()) {
            for (Method method : inside.getDeclaredMethods()) {
                due(inside + " " + method.getName(), false, () -> publicNames().contains(method.getName()));
            }
        }
    }

    private static List<Class<?>> classes() {
        List<Class<?>> all = new ArrayList<>(List.of(Glyphmill.class));
        for (int i = 0; i < all.size(); i++) {
            all.addAll(List.of(all.get(i).getDeclaredClasses()));
        }
        return all;
    }

    private static void staticFields() {
        says("LANGUAGE.md, rule 5: Static fields are final: constants of int, long, boolean, char or String");
        for (Class<?> one : classes()) {
            for (Field field : one.getDeclaredFields()) {
                if (Modifier.isStatic(field.getModifiers())) {
                    due(field + " is final", true, () -> Modifier.isFinal(field.getModifiers()));
                    due(field + " is of a type for constants", true,
                            () -> field.getType().isPrimitive() || field.getType() == String.class);
                }
            }
        }
    }

    private static void sizes() {
        says("LANGUAGE.md, rule 11: at most seven parameters, some twelve classes, and some twenty fields a class");
        due("at most 12 classes", true, () -> classes().size() <= 12);
        for (Class<?> one : classes()) {
            int fields = 0;
            for (Field field : one.getDeclaredFields()) {
                fields += Modifier.isStatic(field.getModifiers()) ? 0 : 1;
            }
            boolean isSmall = fields <= 20;
            due("at most 20 fields in " + one, true, () -> isSmall);
            for (Method method : one.getDeclaredMethods()) {
                due("at most 7 parameters of " + method, true, () -> method.getParameterCount() <= 7);
            }
        }
    }
}
