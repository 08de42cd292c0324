import java.lang.reflect.Constructor;
import java.lang.reflect.Field;
import java.lang.reflect.Method;
import java.lang.reflect.Modifier;
import java.nio.file.Files;
import java.nio.file.Path;
import java.util.Set;
import java.util.TreeSet;
import java.util.regex.Pattern;

/** The rules of LANGUAGE.md that can be seen from the text and from the class. */
public final class LanguageTest {
    private static final Check check = new Check();
    private static final String[] FACE = {"ship 6", "ask 2", "wreck 2", "goOn 1", "buyer 4", "want 3", "burn 3", "store 2",
        "feed 2", "order 1", "force 1", "many 2", "turn 1", "day 3", "about 2", "bargain 2", "clear 1", "held 1",
        "measure 2", "weighed 4", "ward 2", "lasts 2", "tried 5", "count 1", "factor 1"};
    private static final String[] NOT_THERE = {"\\bthrow\\b", "\\btry\\b", "\\bcatch\\b", "\\bsynchronized\\b",
        "\\bassert\\b", "->", "::", "\\bpackage\\b", "\\bSystem\\.(?!arraycopy)", "\\bRandom\\b", "\\bThread\\b",
        "Exact\\b", "\\bhashCode\\b", "\\btoString\\b", "\\bstatic \\{", "import (?!java\\.util\\.(Arrays|ArrayList|List|Iterator);)"};

    public static void main(String[] args) throws Exception {
        String text = Files.readString(Path.of("src/main/java/CoalTurns.java"));
        String code = text.replaceAll("(?s)/\\*.*?\\*/", "").replaceAll("//[^\n]*", "");
        for (String word : NOT_THERE) check.isTrue("without " + word, !Pattern.compile(word).matcher(code).find());
        for (int i = 0; i < text.length(); i++) check.isTrue("a sign of 1 to 127 at " + i, text.charAt(i) < 128);
        faceIsTheDocuments();
        insideIsSmall();
        check.end();
    }

    private static void faceIsTheDocuments() {
        Set<String> methods = new TreeSet<>();
        for (Method m : CoalTurns.class.getDeclaredMethods()) {
            if (Modifier.isPrivate(m.getModifiers())) continue;
            check.isTrue("public: " + m, Modifier.isPublic(m.getModifiers()));
            methods.add(m.getName() + " " + m.getParameterCount());
        }
        check.isTrue("the methods are the document's", methods.equals(new TreeSet<>(Set.of(FACE))));
        Set<String> fields = new TreeSet<>();
        for (Field f : CoalTurns.class.getDeclaredFields()) {
            if (!Modifier.isPrivate(f.getModifiers())) fields.add(f.getName());
        }
        check.isTrue("the constants are the document's", fields.equals(Set.of("NONE", "BAD", "STATE", "FULL")));
        Constructor<?>[] made = CoalTurns.class.getDeclaredConstructors();
        check.isTrue("one public constructor", made.length == 1 && Modifier.isPublic(made[0].getModifiers()));
        check.isTrue("final", Modifier.isFinal(CoalTurns.class.getModifiers()));
    }

    private static void insideIsSmall() {
        Set<String> names = new TreeSet<>();
        for (String method : FACE) names.add(method.split(" ")[0]);
        check.isTrue("some twelve classes", CoalTurns.class.getDeclaredClasses().length <= 12);
        for (Class<?> c : CoalTurns.class.getDeclaredClasses()) {
            check.isTrue("static: " + c, Modifier.isStatic(c.getModifiers()));
            for (Method m : c.getDeclaredMethods()) {
                check.isTrue("at most seven parameters: " + m, m.getParameterCount() <= 7);
                check.isTrue("no name of the face: " + m, !names.contains(m.getName()));
            }
            int fields = 0;
            for (Field f : c.getDeclaredFields()) {
                boolean isStatic = Modifier.isStatic(f.getModifiers());
                check.isTrue("static fields are final: " + f, !isStatic || Modifier.isFinal(f.getModifiers()));
                if (!isStatic) fields++;
            }
            check.isTrue("some twenty fields: " + c, fields <= 20);
        }
    }
}
