import java.io.IOException;
import java.lang.reflect.Constructor;
import java.lang.reflect.Field;
import java.lang.reflect.Method;
import java.lang.reflect.Modifier;
import java.nio.file.Files;
import java.nio.file.Path;
import java.util.Arrays;
import java.util.Map;
import java.util.Set;
import java.util.TreeMap;
import java.util.TreeSet;
import java.util.regex.Matcher;
import java.util.regex.Pattern;
import java.util.stream.Collectors;

/** The public face of the document, and such rules of the language as can be seen from outside. */
public final class FaceTest {
    /** A call for each promise but the first, which is the constructor's. */
    private static final int CALLS = 35;
    private static final Face FACE = Face.ofDocument();

    public static void main(String[] args) throws IOException, ReflectiveOperationException {
        constants();
        members();
        source(Files.readString(Path.of(args.length > 0 ? args[0] : "src/main/java/FireLeave.java")));
        Check.finish();
    }

    private static void constants() throws ReflectiveOperationException {
        Map<String, Integer> shown = new TreeMap<>();
        for (Field f : FireLeave.class.getDeclaredFields()) {
            if (!Modifier.isPrivate(f.getModifiers())) {
                Check.due(f + " is a public constant", f.getModifiers(), Modifier.PUBLIC | Modifier.STATIC | Modifier.FINAL);
                shown.put(f.getName(), f.getInt(null));
            }
        }
        Check.same("the constants", shown.toString(), FACE.constants().toString());
        Check.same("the document's constants", FACE.constants().toString(), "{BAD=-1, FULL=-3, NONE=-4, STATE=-2}");
    }

    private static void members() {
        Class<?> c = FireLeave.class;
        Check.due("public and final", c.getModifiers(), Modifier.PUBLIC | Modifier.FINAL);
        Constructor<?>[] made = c.getDeclaredConstructors();
        Check.due("one constructor", made.length, 1);
        Check.due("it is public and takes nothing", made[0].getModifiers() + 10 * made[0].getParameterCount(), Modifier.PUBLIC);
        Set<String> shown = new TreeSet<>();
        Set<String> names = new TreeSet<>();
        for (Method m : c.getDeclaredMethods()) {
            if (!Modifier.isPrivate(m.getModifiers())) {
                Check.due(m + " is public alone", m.getModifiers(), Modifier.PUBLIC);
                shown.add(told(m));
                names.add(m.getName());
            }
        }
        Check.due("calls of the document's face", FACE.calls().size(), CALLS);
        Check.same("the face", shown.toString(), callsByTypes().toString());
        privateNames(c, names);
        for (Class<?> inner : c.getDeclaredClasses()) {
            Check.due(inner + " is static", Modifier.isStatic(inner.getModifiers()) ? 1 : 0, 1);
            privateNames(inner, names);
            Check.due(inner + ": fields", inner.getDeclaredFields().length > 24 ? 1 : 0, 0);
        }
        Check.due("classes", c.getDeclaredClasses().length > 11 ? 1 : 0, 0);
    }

    private static void privateNames(Class<?> c, Set<String> names) {
        for (Method m : c.getDeclaredMethods()) {
            boolean own = c != FireLeave.class || Modifier.isPrivate(m.getModifiers());
            Check.due(m + " bears a public name", own && names.contains(m.getName()) ? 1 : 0, 0);
            Check.due(m + " takes more than seven", m.getParameterCount() > 7 ? 1 : 0, 0);
        }
        for (Field f : c.getDeclaredFields()) {
            boolean fine = !Modifier.isStatic(f.getModifiers()) || Modifier.isFinal(f.getModifiers());
            Check.due(f + " is static and changes", fine ? 0 : 1, 0);
        }
    }

    /** The document's calls without the names of their numbers, which the machine does not keep. */
    private static Set<String> callsByTypes() {
        Set<String> calls = new TreeSet<>();
        for (String call : FACE.calls()) {
            calls.add(call.replaceAll("(int|boolean) \\w+(?=[,)])", "$1"));
        }
        return calls;
    }

    private static String told(Method m) {
        String numbers = Arrays.stream(m.getParameterTypes()).map(Class::getSimpleName).collect(Collectors.joining(", "));
        return m.getReturnType().getSimpleName() + " " + m.getName() + "(" + numbers + ")";
    }

    private static void source(String text) {
        String code = text.replaceAll("(?s)/\\*.*?\\*/", "").replaceAll("//[^\n]*", "").replaceAll("\"[^\"\n]*\"", "\"\"");
        String[] words = {"throw", "throws", "try", "catch", "synchronized", "assert", "package", "Object", "System\\.out",
            "Math\\.\\w+Exact", "->", "::", "static\\s*\\{", "hashCode", "\\btoString", "new \\w+\\[[^\\]]*\\]\\["};
        for (String word : words) {
            Matcher m = Pattern.compile(Character.isLetter(word.charAt(0)) ? "\\b" + word + "\\b" : word).matcher(code);
            Check.due("the source holds " + word, m.find() ? 1 : 0, 0);
        }
        Matcher imports = Pattern.compile("import ([\\w.]+);").matcher(code);
        while (imports.find()) {
            Check.same("an import", imports.group(1), "java.util.Arrays");
        }
        for (int i = 0; i < text.length(); i++) {
            if (text.charAt(i) > 126) {
                Check.due("sign " + i + " of the source", text.charAt(i), 0);
            }
        }
    }
}
