import java.lang.reflect.InvocationTargetException;
import java.lang.reflect.Method;
import java.lang.reflect.Modifier;
import java.util.ArrayList;
import java.util.Comparator;
import java.util.List;
import java.util.NoSuchElementException;
import java.util.Random;

/** Calls with whatever arguments in whatever state: none throws but led, and led only what the document names. */
final class MachineTest {
    private static final int OBJECTS = 500;
    // With the texts that are fed between them, some 512 calls at most.
    private static final int CALLS = 300;
    private static final int[] EDGES = {0, 1, 2, 3, 4, 5, 7, 8, 9, 10, 30, 31, 59, 60, 61, 100, 200, 201, 400, 998, 999, 1000,
            65536, 65537, -1, -2, -1000, Integer.MAX_VALUE, Integer.MIN_VALUE};
    private static final String[] TEXTS = {Texts.FOUR, "",
            "store hold 9 sleeps 100;cellar a banker 1 1 1 1 1 1 1 1;cellar b giver 30 10;unsure b 9;seen b night 99 heaps 60",
            "store hold 2 sleeps 0;cellar a giver 1;cellar b banker 1;cellar c miser 1;cellar d steward 1;unsure d 1;unsure a 9"};

    private MachineTest() {
    }

    static void run() {
        Checks.promise(0);
        List<Method> face = new ArrayList<>();
        for (Method method : StewardHeaps.class.getDeclaredMethods()) {
            if (Modifier.isPublic(method.getModifiers())) {
                face.add(method);
            }
        }
        // The machine lists methods in no certain order.
        face.sort(Comparator.comparing(Method::getName));
        Random random = new Random(20);
        for (int i = 0; i < OBJECTS; i++) {
            StewardHeaps x = new StewardHeaps();
            for (int call = 0; call < CALLS; call++) {
                if (random.nextInt(40) == 0) {
                    Texts.tell(x, TEXTS[random.nextInt(TEXTS.length)]);
                }
                call(x, face.get(random.nextInt(face.size())), random);
            }
        }
    }

    private static void call(StewardHeaps x, Method method, Random random) {
        Object[] arguments = new Object[method.getParameterCount()];
        StringBuilder told = new StringBuilder(method.getName());
        for (int i = 0; i < arguments.length; i++) {
            if (method.getParameterTypes()[i] == boolean.class) {
                arguments[i] = random.nextBoolean();
            } else {
                arguments[i] = random.nextInt(3) > 0 ? random.nextInt(5) : EDGES[random.nextInt(EDGES.length)];
            }
            told.append(i == 0 ? "(" : ", ").append(arguments[i]);
        }
        try {
            method.invoke(x, arguments);
            Checks.due(told + ")", 0, 0);
        } catch (InvocationTargetException e) {
            boolean due = method.getName().equals("led") && e.getCause().getClass() == NoSuchElementException.class;
            Checks.due(told + ") throws " + e.getCause(), due, true);
        } catch (IllegalAccessException e) {
            Checks.fail(told + ") can't be called");
        }
    }
}
