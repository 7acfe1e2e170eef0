import java.lang.reflect.Field;
import java.lang.reflect.Member;
import java.lang.reflect.Method;
import java.lang.reflect.Modifier;
import java.util.HashSet;
import java.util.Set;
import java.util.TreeSet;
import java.util.regex.Matcher;
import java.util.regex.Pattern;

/** Rules of ../shared/LANGUAGE.md that can be read off the source and the compiled class. */
final class LanguageTest {
    private static final String FACE = "feed store fault where cellar heap still heaps greatest heapIn held settles round "
            + "fewest alike column square corners rank hook orders common mirrors sources source ways waysBy waysUnlike eats "
            + "eatsOf eatsMany carry level makes half fits fitAt could surely ask askLeaves judge comes rests rest odds mean "
            + "drawn night add take join undo image back led size trouble";

    private LanguageTest() {
    }

    static void run(String source) {
        Checks.promise(0);
        String code = source.replaceAll("(?s)/\\*.*?\\*/", "").replaceAll("//.*", "");
        face();
        membersOutsideTheFace();
        words(code);
        imports(code);
        classes(code);
        madeOnce(code);
    }

    private static void face() {
        Set<String> names = new TreeSet<>(Set.of(FACE.split(" ")));
        Set<String> found = new TreeSet<>();
        for (Method method : StewardHeaps.class.getDeclaredMethods()) {
            if (Modifier.isPublic(method.getModifiers())) {
                found.add(method.getName());
            }
        }
        Checks.due("the face is " + found, found.equals(names), true);
        Checks.due("the class is public and final",
                (StewardHeaps.class.getModifiers() & (Modifier.PUBLIC | Modifier.FINAL)) == (Modifier.PUBLIC | Modifier.FINAL), true);
        Checks.due("NONE", StewardHeaps.NONE, -1);
        Checks.due("one constructor", StewardHeaps.class.getDeclaredConstructors().length, 1);
    }

    private static void membersOutsideTheFace() {
        Set<String> face = new HashSet<>(Set.of(FACE.split(" ")));
        for (Method method : StewardHeaps.class.getDeclaredMethods()) {
            Checks.due(method + " is of the face or private, one of both",
                    face.contains(method.getName()) != Modifier.isPrivate(method.getModifiers()), true);
        }
        for (Field field : StewardHeaps.class.getDeclaredFields()) {
            Checks.due(field + " is private, or NONE", isPrivate(field) != field.getName().equals("NONE"), true);
            staticsAreFinal(field);
        }
        for (Class<?> inside : StewardHeaps.class.getDeclaredClasses()) {
            Checks.due(inside + " is private and static",
                    Modifier.isPrivate(inside.getModifiers()) && Modifier.isStatic(inside.getModifiers()), true);
            for (Method method : inside.getDeclaredMethods()) {
                Checks.due(method + " bears no name of the face", face.contains(method.getName()), false);
                Checks.due(method + " takes at most seven parameters", method.getParameterCount() <= 7, true);
            }
            int fields = 0;
            for (Field field : inside.getDeclaredFields()) {
                staticsAreFinal(field);
                fields += Modifier.isStatic(field.getModifiers()) ? 0 : 1;
            }
            Checks.due(inside + " has some twenty fields at most", fields <= 20, true);
        }
    }

    private static boolean isPrivate(Member member) {
        return Modifier.isPrivate(member.getModifiers());
    }

    private static void staticsAreFinal(Field field) {
        int modifiers = field.getModifiers();
        Checks.due(field + " is final if static", !Modifier.isStatic(modifiers) || Modifier.isFinal(modifiers), true);
    }

    private static void words(String code) {
        String[] ruledOut = {"\\bpackage\\b", "->", "::", "\\bcatch\\b", "\\bfinally\\b", "\\bsynchronized\\b", "\\bassert\\b",
                "\\bnull\\b", "\\binstanceof\\b", "Exact\\b", "\\bnanoTime\\b", "\\bRandom\\b", "\\bdouble\\b", "\\bfloat\\b",
                "\"\\s*\\+", "\\+\\s*\"", "\\bprotected\\b", "\\bstatic\\s*\\{", "\\bnew\\s+\\w+(\\.\\w+)*Exception\\([^)]"};
        for (String pattern : ruledOut) {
            Checks.due("has " + pattern, Pattern.compile(pattern).matcher(code).find(), false);
        }
        for (int i = 0; i < code.length(); i++) {
            if (code.charAt(i) > 126) {
                Checks.fail("a sign beyond 126 at " + i);
            }
        }
    }

    private static void imports(String code) {
        Matcher matcher = Pattern.compile("import\\s+([\\w.]+);").matcher(code);
        while (matcher.find()) {
            Checks.due("imports " + matcher.group(1), matcher.group(1).equals("java.util.NoSuchElementException"), true);
        }
        matcher = Pattern.compile("\\b(Math|System|Integer|Long|Arrays|String|Character|Byte)\\.(\\w+)").matcher(code);
        Set<String> allowed = Set.of("Math.min", "Math.max", "System.arraycopy");
        while (matcher.find()) {
            Checks.due("calls " + matcher.group(), allowed.contains(matcher.group()), true);
        }
    }

    private static void classes(String code) {
        Matcher matcher = Pattern.compile("\\bclass\\s+\\w+").matcher(code);
        int classes = 0;
        while (matcher.find()) {
            classes++;
        }
        Checks.due("some twelve classes at most, not " + classes, classes <= 12, true);
        int length = 0;
        for (String line : code.split("\n")) {
            length = line.matches(" {4}( {4})?[^ }].*\\{") ? 0 : length + 1;
            Checks.due("a method of " + length + " lines: " + line, length > 60 && line.matches(" {4}( {4})?\\}"), false);
        }
    }

    /** All that is made is made with the object, but for what led throws. */
    private static void madeOnce(String code) {
        for (String line : code.split("\n")) {
            boolean makes = line.matches(".*\\bnew\\b.*");
            boolean field = line.matches(" +(private )?(final )?[\\w\\[\\]]+ \\w+ = new .*") && !line.startsWith("            ");
            boolean inConstructor = line.matches(" +(rows|kept|pictures)\\[\\w\\] = new (Heaps|Cellars)\\(\\);");
            boolean thrown = line.contains("throw new NoSuchElementException();");
            Checks.due("makes an object: " + line, !makes || field || inConstructor || thrown, true);
        }
    }
}
