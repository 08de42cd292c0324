import java.lang.reflect.Constructor;
import java.lang.reflect.Field;
import java.lang.reflect.Method;
import java.lang.reflect.Modifier;
import java.nio.file.Files;
import java.nio.file.Path;
import java.util.Set;
import java.util.TreeSet;
import java.util.regex.Pattern;

/** The rules of LANGUAGE.md that can be seen from the text and from the class. */
public final class LanguageTest {
    private static final Check check = new Check();
    /** A name and its parameters' types: i for int, l for long. */
    private static final String[] FACE = {"ship iiiiii", "ask ii", "wreck ii", "goOn i", "buyer iiii", "want iii",
        "burn iii", "store ii", "feed li", "order i", "force i", "many ii", "turn i", "day iii", "about ii", "bargain ii",
        "clear i", "held i", "measure ii", "weighed iiii", "ward ii", "lasts ii", "tried iiiii", "count i", "factor i"};
    private static final int LONGEST_METHOD = 60;
    private static final String[] NOT_THERE = {"\\bthrow\\b", "\\btry\\b", "\\bcatch\\b", "\\bsynchronized\\b",
        "\\bassert\\b", "->", "::", "\\bpackage\\b", "\\bSystem\\.(?!arraycopy)", "\\bRandom\\b", "\\bThread\\b",
        "Exact\\b", "\\bhashCode\\b", "\\btoString\\b", "\\bstatic \\{", "import (?!java\\.util\\.(Arrays|ArrayList|List|Iterator);)"};

    public static void main(String[] args) throws Exception {
        String text = Files.readString(Path.of("src/main/java/CoalTurns.java"));
        String code = text.replaceAll("(?s)/\\*.*?\\*/", "").replaceAll("//[^\n]*", "");
        for (String word : NOT_THERE) check.isTrue("without " + word, !Pattern.compile(word).matcher(code).find());
        for (int i = 0; i < text.length(); i++) check.isTrue("a sign of 1 to 127 at " + i, text.charAt(i) < 128);
        faceIsTheDocuments();
        constantsAreTheDocuments();
        insideIsSmall();
        methodsAreShort(text);
        check.end();
    }

    private static void faceIsTheDocuments() {
        Set<String> methods = new TreeSet<>();
        for (Method m : CoalTurns.class.getDeclaredMethods()) {
            if (Modifier.isPrivate(m.getModifiers())) continue;
            check.isTrue("public, of an object: " + m, m.getModifiers() == Modifier.PUBLIC);
            check.isTrue("answers an int: " + m, m.getReturnType() == int.class);
            methods.add(m.getName() + " " + typesOf(m));
        }
        check.isTrue("the methods are the document's", methods.equals(new TreeSet<>(Set.of(FACE))));
        Constructor<?>[] made = CoalTurns.class.getDeclaredConstructors();
        check.isTrue("one public constructor", made.length == 1 && Modifier.isPublic(made[0].getModifiers()));
        check.isTrue("without parameters", made[0].getParameterCount() == 0);
        check.isTrue("public and final", CoalTurns.class.getModifiers() == (Modifier.PUBLIC | Modifier.FINAL));
        check.isTrue("no class above it", CoalTurns.class.getSuperclass() == Object.class);
        check.isTrue("no package", CoalTurns.class.getPackageName().isEmpty());
    }

    private static String typesOf(Method m) {
        StringBuilder types = new StringBuilder();
        for (Class<?> type : m.getParameterTypes()) types.append(type.getName().charAt(0));
        return types.toString();
    }

    private static void constantsAreTheDocuments() throws IllegalAccessException {
        Set<String> constants = new TreeSet<>();
        for (Field f : CoalTurns.class.getDeclaredFields()) {
            if (Modifier.isPrivate(f.getModifiers())) continue;
            int wanted = Modifier.PUBLIC | Modifier.STATIC | Modifier.FINAL;
            check.isTrue("a public constant: " + f, f.getModifiers() == wanted && f.getType() == int.class);
            constants.add(f.getName() + " " + f.getInt(null));
        }
        check.isTrue("the constants are the document's", constants.equals(Set.of("NONE -1", "BAD -2", "STATE -3", "FULL -4")));
    }

    private static void insideIsSmall() {
        Set<String> names = new TreeSet<>();
        for (String method : FACE) names.add(method.split(" ")[0]);
        check.isTrue("some twelve classes", CoalTurns.class.getDeclaredClasses().length <= 12);
        for (Class<?> c : CoalTurns.class.getDeclaredClasses()) {
            check.isTrue("static: " + c, Modifier.isStatic(c.getModifiers()));
            for (Method m : c.getDeclaredMethods()) {
                check.isTrue("at most seven parameters: " + m, m.getParameterCount() <= 7);
                check.isTrue("no name of the face: " + m, !names.contains(m.getName()));
            }
            int fields = 0;
            for (Field f : c.getDeclaredFields()) {
                boolean isStatic = Modifier.isStatic(f.getModifiers());
                check.isTrue("static fields are final: " + f, !isStatic || Modifier.isFinal(f.getModifiers()));
                if (!isStatic) fields++;
            }
            check.isTrue("some twenty fields: " + c, fields <= 20);
        }
    }

    /** The file is indented by 4: a method ends with the brace that stands as deep as its head. */
    private static void methodsAreShort(String text) {
        String[] lines = text.split("\n");
        int methods = 0;
        for (int i = 0; i < lines.length; i++) {
            if (!lines[i].matches("( {4}| {8})[a-z][^;=]*\\) \\{") || lines[i].trim().startsWith("if ")) continue;
            String end = lines[i].replaceAll("\\S.*", "") + "}";
            int last = i;
            while (last < lines.length && !lines[last].equals(end)) last++;
            check.isTrue("short: " + lines[i].trim(), last - i < LONGEST_METHOD);
            methods++;
        }
        check.isTrue("methods were found: " + methods, methods > 2 * FACE.length);
    }
}
