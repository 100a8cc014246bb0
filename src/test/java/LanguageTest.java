import java.lang.reflect.Constructor;
import java.lang.reflect.Executable;
import java.lang.reflect.Field;
import java.lang.reflect.Method;
import java.lang.reflect.Modifier;
import java.nio.file.Files;
import java.nio.file.Path;
import java.util.ArrayList;
import java.util.List;
import java.util.Set;
import java.util.TreeSet;
import java.util.regex.Matcher;
import java.util.regex.Pattern;

/** Rules of ../shared/LANGUAGE.md that can be seen from the class and its source, each with its number. */
public final class LanguageTest {
    private static final String FILE = "src/main/java/TileForge.java";
    // Narrower than the rules, to what the class needs: a name that is new here is to be looked up there first.
    private static final Set<String> LIBRARY = Set.of("Math.abs", "Math.max", "Math.min", "System.arraycopy");
    private static final String REFUSALS = "IllegalArgumentException|IllegalStateException"
            + "|IndexOutOfBoundsException|UnsupportedOperationException";
    private static final int MOST_PARAMETERS = 7;
    private static final int MOST_LINES = 60;
    private static final int MOST_CLASSES = 12;
    private static final int MOST_FIELDS = 20;

    private static final List<Class<?>> OWN = ownClasses();

    public static void main(String[] args) throws Exception {
        String source = withoutComments(Files.readString(Path.of(FILE)));
        rule1Names();
        rule1NestedClasses();
        rules2And6And13Words(source);
        rule3Types();
        rule4Library(source);
        rule5StaticFields(source);
        rule6Throws(source);
        rule9Loops(source);
        rule11Sizes();
        rule11LengthOfMethods(source);
        rule12ObjectsMade(source);
        Due.end();
    }

    private static List<Class<?>> ownClasses() {
        List<Class<?>> all = new ArrayList<>();
        all.add(TileForge.class);
        all.addAll(List.of(TileForge.class.getDeclaredClasses()));
        return all;
    }

    private static String withoutComments(String source) {
        return Pattern.compile("/\\*.*?\\*/", Pattern.DOTALL).matcher(source).replaceAll("").replaceAll("//.*", "");
    }

    private static void rule1Names() {
        Set<String> face = new TreeSet<>();
        for (Method m : TileForge.class.getMethods()) {
            face.add(m.getName());
        }
        for (Class<?> own : OWN) {
            for (Method m : own.getDeclaredMethods()) {
                boolean hidden = !Modifier.isPublic(m.getModifiers());
                Due.same("rule 1, a hidden method with the name of a public one: " + m, "false",
                        "" + (hidden && face.contains(m.getName())));
            }
        }
    }

    private static void rule1NestedClasses() {
        for (Class<?> nested : TileForge.class.getDeclaredClasses()) {
            int modifiers = nested.getModifiers();
            boolean hidden = !Modifier.isPublic(modifiers) && !Modifier.isProtected(modifiers);
            Due.same("rule 1, " + nested + " is hidden and static", "true",
                    "" + (hidden && Modifier.isStatic(modifiers)));
        }
    }

    private static void rules2And6And13Words(String source) {
        String[] refused = {"->", "::", "\\bimport\\b", "\\bpackage\\b", "\\bfinally\\b", "\\bsynchronized\\b",
            "\\bassert\\b", "\\bnative\\b", "\\bvolatile\\b", "\\bThread\\b", "\\bjava\\.", "\\bgetMessage\\b",
            "\\bhashCode\\b", "\\btoString\\b", "\\bnanoTime\\b", "\\bNaN\\b"};
        for (String word : refused) {
            Due.same("rules 2, 6 and 13, " + word, 0, found(source, word).size());
        }
    }

    private static List<String> found(String source, String pattern) {
        List<String> all = new ArrayList<>();
        Matcher matcher = Pattern.compile(pattern).matcher(source);
        while (matcher.find()) {
            all.add(matcher.group());
        }
        return all;
    }

    private static void rule3Types() {
        for (Class<?> own : OWN) {
            for (Field f : own.getDeclaredFields()) {
                Due.same("rule 3, the type of " + f, "true", "" + isAllowed(f.getType()));
            }
            for (Executable e : methodsAndConstructors(own)) {
                for (Class<?> type : e.getParameterTypes()) {
                    Due.same("rule 3, a type in " + e, "true", "" + isAllowed(type));
                }
            }
            for (Method m : own.getDeclaredMethods()) {
                Due.same("rule 3, the answer of " + m, "true", "" + isAllowed(m.getReturnType()));
            }
        }
    }

    private static boolean isAllowed(Class<?> type) {
        Class<?> part = type.isArray() ? type.getComponentType() : type;
        return part.isPrimitive() || OWN.contains(part);
    }

    private static List<Executable> methodsAndConstructors(Class<?> own) {
        List<Executable> all = new ArrayList<>();
        all.addAll(List.of(own.getDeclaredMethods()));
        for (Constructor<?> c : own.getDeclaredConstructors()) {
            if (!c.isSynthetic()) {
                all.add(c);
            }
        }
        return all;
    }

    private static void rule4Library(String source) {
        Set<String> own = new TreeSet<>();
        for (Class<?> c : OWN) {
            own.add(c.getSimpleName());
        }
        for (String call : found(source, "\\b[A-Z]\\w*[a-z]\\w*\\.\\w+")) {
            boolean allowed = LIBRARY.contains(call) || own.contains(call.split("\\.")[0]);
            Due.same("rule 4, " + call, "true", "" + allowed);
        }
    }

    private static void rule5StaticFields(String source) {
        for (Class<?> own : OWN) {
            for (Field f : own.getDeclaredFields()) {
                if (Modifier.isStatic(f.getModifiers())) {
                    boolean constant = Modifier.isFinal(f.getModifiers()) && f.getType().isPrimitive();
                    Due.same("rule 5, " + f + " is a constant", "true", "" + constant);
                }
            }
        }
        Due.same("rule 5, static initialisers", 0, found(source, "\\bstatic\\s*\\{").size());
    }

    private static void rule6Throws(String source) {
        int plain = found(source, "\\bthrow new (" + REFUSALS + ")\\((\"[^\"]*\")?\\);").size();
        Due.same("rule 6, throws of another form", found(source, "\\bthrow\\b").size(), plain);
        Due.same("rule 6, throws in the constructor", 0, found(constructorOf(source), "\\bthrow\\b").size());
    }

    private static String constructorOf(String source) {
        String start = "    public TileForge() {\n";
        int from = source.indexOf(start) + start.length();
        return source.substring(from, source.indexOf("\n    }\n", from));
    }

    private static void rule9Loops(String source) {
        Due.same("rule 9, loops without an end", 0,
                found(source, "while \\(true\\)|for \\([^;]*;\\s*;").size());
    }

    private static void rule11Sizes() {
        Due.same("rule 11, classes", "true", "" + (OWN.size() <= MOST_CLASSES));
        for (Class<?> own : OWN) {
            Due.same("rule 11, classes deeper inside " + own, own == TileForge.class ? OWN.size() - 1 : 0,
                    own.getDeclaredClasses().length);
            int fields = 0;
            for (Field f : own.getDeclaredFields()) {
                fields += Modifier.isStatic(f.getModifiers()) ? 0 : 1;
            }
            Due.same("rule 11, fields of " + own, "true", "" + (fields <= MOST_FIELDS));
            for (Executable e : methodsAndConstructors(own)) {
                Due.same("rule 11, parameters of " + e, "true", "" + (e.getParameterCount() <= MOST_PARAMETERS));
            }
        }
    }

    /** What begins at the depth of a method and is no field goes to the brace at the same depth. */
    private static void rule11LengthOfMethods(String source) {
        Matcher body = Pattern.compile("(?m)^(    |        )\\w[^;={]*\\([^;{]*\\{\n(?s:.*?)\n\\1\\}$").matcher(source);
        int methods = 0;
        while (body.find()) {
            String text = body.group();
            methods++;
            int lines = text.split("\n").length;
            Due.same("rule 11, " + lines + " lines of " + text.split("\n")[0].trim(), "true",
                    "" + (lines <= MOST_LINES));
        }
        Due.same("rule 11, methods were found", "true", "" + (methods > 40));
    }

    /** The room of a run: rows are made with the object, so that no call makes anything but its exception. */
    private static void rule12ObjectsMade(String source) {
        String rest = source.replace(constructorOf(source), "")
                .replaceAll("\\bthrow new \\w+\\(", "").replaceAll("(?m)^        final [^;(]* = new [^;]*;$", "");
        Due.same("rule 12, objects made by a call", 0, found(rest, "\\bnew\\b.*").size());
        Due.same("rule 12, rows made by a call", 0, found(rest, "\\.clone\\(|= \\{").size());
    }
}
