import java.io.IOException;
import java.lang.reflect.InvocationTargetException;
import java.lang.reflect.Method;
import java.nio.file.Files;
import java.nio.file.Path;
import java.util.ArrayList;
import java.util.Comparator;
import java.util.List;

/** Runs every test of an edge, each by itself, and holds what they quote against the document. */
final class Edges {
    private static final Class<?>[] GROUPS = {EdgesOfTexts.class, EdgesOfNights.class, EdgesOfShapes.class,
            EdgesOfCounts.class, EdgesOfGuesses.class, EdgesOfChance.class, EdgesOfActs.class};

    private Edges() {
    }

    static void run() {
        for (Method test : all()) {
            runOne(test);
        }
    }

    /** By promises; the machine lists methods in no certain order. */
    static List<Method> all() {
        List<Method> tests = new ArrayList<>();
        for (Class<?> group : GROUPS) {
            for (Method method : group.getDeclaredMethods()) {
                if (method.isAnnotationPresent(Edge.class)) {
                    tests.add(method);
                }
            }
        }
        tests.sort(Comparator.comparingInt((Method test) -> test.getAnnotation(Edge.class).promise())
                .thenComparing(Method::getName));
        return tests;
    }

    static void runOne(Method test) {
        Edge edge = test.getAnnotation(Edge.class);
        Checks.promise(edge.promise());
        Checks.about(test.getName() + ", \"" + edge.says() + "\"");
        int before = Checks.made();
        try {
            test.invoke(null);
        } catch (InvocationTargetException e) {
            Checks.fail("throws " + e.getCause());
        } catch (IllegalAccessException e) {
            Checks.fail("can't be run");
        }
        if (Checks.made() == before) {
            Checks.fail("checks nothing");
        }
        Checks.about("");
    }

    /** Each quote stands in the document, and each number, bound and refusal of the document stands in a quote. */
    static void holdAgainst(Path document) throws IOException {
        Quotes quotes = new Quotes(Files.readString(document));
        for (Method test : all()) {
            Edge edge = test.getAnnotation(Edge.class);
            quotes.add(edge.promise(), edge.says(), test.getName());
        }
        quotes.tellWhatIsLeftOut();
    }
}
