import java.lang.reflect.Field;
import java.lang.reflect.Method;
import java.lang.reflect.Modifier;
import java.util.Arrays;
import java.util.HashSet;
import java.util.List;
import java.util.Set;
import java.util.TreeSet;
import java.util.regex.Matcher;
import java.util.regex.Pattern;
import java.util.stream.Collectors;

/** The document's face, and rules of ../shared/LANGUAGE.md that can be read off the source and the compiled class. */
final class LanguageTest {
    private static final Pattern FACE = Pattern.compile("public (\\w+) (\\w+)\\(([^)]*)\\)( throws (\\w+))?;");
    private static final Set<String> THROWN = Set.of("IllegalStateException", "IllegalArgumentException", "IndexOutOfBoundsException",
            "ArithmeticException", "UnsupportedOperationException", "NoSuchElementException", "RuntimeException");
    private static final Set<String> IMPORTED = Set.of("java.util.ArrayList", "java.util.Arrays", "java.util.Iterator",
            "java.util.List", "java.util.NoSuchElementException");
    private static final Set<String> CALLED = Set.of("System.arraycopy", "Arrays.copyOf", "Arrays.copyOfRange", "Arrays.fill", "List.of");

    private LanguageTest() {
    }

    static void run(String source, String document) {
        Checks.promise(0);
        String code = source.replaceAll("(?s)/\\*.*?\\*/", "").replaceAll("//.*", "");
        Set<String> face = face(document);
        membersOutsideTheFace(face);
        for (Class<?> inside : StewardHeaps.class.getDeclaredClasses()) {
            classInside(inside, face);
        }
        words(code);
        calls(code);
        thrown(code);
        sizes(code);
    }

    /** Each method of the document is there, as it says; their names. */
    private static Set<String> face(String document) {
        Set<String> names = new TreeSet<>();
        Matcher matcher = FACE.matcher(document);
        while (matcher.find()) {
            String due = matcher.group(1) + " " + matcher.group(2) + "(" + matcher.group(3).replaceAll("(\\w+) \\w+", "$1") + ")"
                    + (matcher.group(5) == null ? "" : " throws " + matcher.group(5));
            names.add(matcher.group(2));
            Checks.due(due + " is in the class", facesOfTheClass().contains(due), true);
        }
        Checks.due("methods of the class", facesOfTheClass().size(), names.size());
        int modifiers = StewardHeaps.class.getModifiers();
        Checks.due("the class is public", Modifier.isPublic(modifiers), true);
        Checks.due("the class is final", Modifier.isFinal(modifiers), true);
        Checks.due("NONE", StewardHeaps.NONE, -1);
        Checks.due("constructors", StewardHeaps.class.getDeclaredConstructors().length, 1);
        Checks.due("public ones", StewardHeaps.class.getConstructors().length, 1);
        return names;
    }

    private static Set<String> facesOfTheClass() {
        Set<String> faces = new HashSet<>();
        for (Method method : StewardHeaps.class.getDeclaredMethods()) {
            if (Modifier.isPublic(method.getModifiers())) {
                String types = named(method.getParameterTypes());
                String thrown = method.getExceptionTypes().length == 0 ? "" : " throws " + named(method.getExceptionTypes());
                faces.add(method.getReturnType().getSimpleName() + " " + method.getName() + "(" + types + ")" + thrown);
            }
        }
        return faces;
    }

    private static String named(Class<?>[] types) {
        return Arrays.stream(types).map(Class::getSimpleName).collect(Collectors.joining(", "));
    }

    private static void membersOutsideTheFace(Set<String> face) {
        for (Method method : StewardHeaps.class.getDeclaredMethods()) {
            boolean hidden = Modifier.isPrivate(method.getModifiers());
            Checks.due(method + " is of the face or private, one of both",
                    method.isSynthetic() || face.contains(method.getName()) != hidden, true);
            Checks.due(method + " takes at most seven parameters", method.getParameterCount() <= 7, true);
        }
        for (Field field : StewardHeaps.class.getDeclaredFields()) {
            boolean hidden = Modifier.isPrivate(field.getModifiers());
            Checks.due(field + " is private, or NONE", field.isSynthetic() || hidden != field.getName().equals("NONE"), true);
            staticsAreFinal(field);
        }
    }

    private static void classInside(Class<?> inside, Set<String> face) {
        int modifiers = inside.getModifiers();
        Checks.due(inside + " is private or package-visible", Modifier.isPublic(modifiers) || Modifier.isProtected(modifiers), false);
        for (Method method : inside.getDeclaredMethods()) {
            Checks.due(method + " is private and bears no name of the face",
                    Modifier.isPrivate(method.getModifiers()) && face.contains(method.getName()), false);
            Checks.due(method + " takes at most seven parameters", method.getParameterCount() <= 7, true);
        }
        int fields = 0;
        for (Field field : inside.getDeclaredFields()) {
            staticsAreFinal(field);
            fields += Modifier.isStatic(field.getModifiers()) ? 0 : 1;
        }
        Checks.due(inside + " has some twenty fields at most", fields <= 22, true);
    }

    private static void staticsAreFinal(Field field) {
        int modifiers = field.getModifiers();
        Checks.due(field + " is final if static", !Modifier.isStatic(modifiers) || Modifier.isFinal(modifiers), true);
    }

    private static void words(String source) {
        String code = source.replaceAll("\\b(case\\b[^:;{}]*?|default\\s*)->", " ");
        List<String> ruledOut = List.of("\\bpackage\\b", "::", "\\)\\s*->", "[=(,]\\s*\\w+\\s*->", "\\bfinally\\b", "\\bsynchronized\\b",
                "\\bassert\\b", "\\bprotected\\b", "\\bstatic\\s*\\{", "\\bgetMessage\\b", "\"\\s*\\+(?!\\+)", "(?<!\\+)\\+\\s*\"",
                "\\bnanoTime\\b", "\\bcurrentTimeMillis\\b", "\\bRandom\\b", "\\bThread\\b", "\\bextends\\s+\\w*Exception\\b");
        for (String pattern : ruledOut) {
            Checks.due("has " + pattern, Pattern.compile(pattern).matcher(code).find(), false);
        }
        for (int i = 0; i < code.length(); i++) {
            if (code.charAt(i) > 126) {
                Checks.fail("a sign beyond 126 at " + i);
            }
        }
    }

    private static void calls(String code) {
        Matcher matcher = Pattern.compile("import\\s+(?:static\\s+)?([\\w.*]+);").matcher(code);
        while (matcher.find()) {
            Checks.due("imports " + matcher.group(1), IMPORTED.contains(matcher.group(1)), true);
        }
        matcher = Pattern.compile("\\b(System|Arrays|List|Character|Byte|Short|String|Boolean|Double|Float|Objects|Collections)\\.(\\w+)")
                .matcher(code);
        while (matcher.find()) {
            Checks.due("calls " + matcher.group(), CALLED.contains(matcher.group()), true);
        }
        matcher = Pattern.compile("\\b(Math|Integer|Long)\\.(\\w+)").matcher(code);
        while (matcher.find()) {
            Checks.due("calls " + matcher.group(), matcher.group(2).endsWith("Exact"), false);
        }
    }

    private static void thrown(String code) {
        Matcher matcher = Pattern.compile("\\bthrow\\s+(new\\s+)?(\\w+)").matcher(code);
        while (matcher.find()) {
            Checks.due("throws " + matcher.group(2), matcher.group(1) != null && THROWN.contains(matcher.group(2)), true);
        }
    }

    private static void sizes(String code) {
        String bare = code.replaceAll("\"(\\\\.|[^\"\\\\])*\"", "\"\"").replaceAll("'(\\\\.|[^'\\\\])'", "' '");
        Matcher matcher = Pattern.compile("\\b(class|record|enum|interface)\\s+\\w+").matcher(bare);
        int classes = 0;
        while (matcher.find()) {
            classes++;
        }
        Checks.due("some twelve classes at most, not " + classes, classes <= 14, true);
        matcher = Pattern.compile("([\\w<>\\[\\]]+ \\w+ ?\\([^()]*\\))[^;{}()]*\\{").matcher(bare);
        for (int from = 0; matcher.find(from); from = matcher.end() - 1) {
            long lines = bare.substring(matcher.end(), endOfBlock(bare, matcher.end())).lines().count();
            Checks.due("some sixty lines at most, not " + lines + ": " + matcher.group(1), lines <= 70, true);
        }
    }

    private static int endOfBlock(String code, int from) {
        int depth = 1;
        int at = from;
        while (depth > 0 && at < code.length()) {
            depth += code.charAt(at) == '{' ? 1 : code.charAt(at) == '}' ? -1 : 0;
            at++;
        }
        return at;
    }
}
