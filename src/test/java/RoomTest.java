import com.sun.management.ThreadMXBean;
import java.lang.management.ManagementFactory;
import java.lang.reflect.InvocationTargetException;
import java.lang.reflect.Method;
import java.lang.reflect.Modifier;

/** All calls of one run live in one room of 7.3 million fields and elements: no call makes much. */
final class RoomTest {
    private static final int CALLS = 500;
    private static final long MOST_BYTES = 60_000_000;

    private RoomTest() {
    }

    static void run() {
        Checks.promise(0);
        if (!(ManagementFactory.getThreadMXBean() instanceof ThreadMXBean room) || !room.isThreadAllocatedMemorySupported()) {
            return;
        }
        for (Method method : StewardHeaps.class.getDeclaredMethods()) {
            if (Modifier.isPublic(method.getModifiers())) {
                long before = room.getThreadAllocatedBytes(Thread.currentThread().getId());
                callOften(method);
                long made = room.getThreadAllocatedBytes(Thread.currentThread().getId()) - before;
                Checks.due(CALLS + " calls of " + method.getName() + " made " + made + " bytes", made <= MOST_BYTES, true);
            }
        }
    }

    private static void callOften(Method method) {
        StewardHeaps x = Texts.of(Texts.FOUR);
        Object[] arguments = new Object[method.getParameterCount()];
        for (int i = 0; i < arguments.length; i++) {
            arguments[i] = method.getParameterTypes()[i] == boolean.class ? (Object) true : (Object) Math.min(i, 1);
        }
        if (method.getName().equals("feed") || method.getName().equals("store")) {
            feedAndStore(x);
            return;
        }
        try {
            for (int i = 0; i < CALLS; i++) {
                method.invoke(x, arguments);
            }
        } catch (InvocationTargetException | IllegalAccessException e) {
            Checks.fail(method.getName() + " throws " + e.getCause());
        }
    }

    private static void feedAndStore(StewardHeaps x) {
        for (int calls = 0; calls < CALLS - 10; calls += 8) {
            Texts.tell(x, Texts.FOUR);
        }
    }
}
