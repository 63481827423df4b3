import java.lang.management.ManagementFactory;
import java.lang.reflect.InvocationTargetException;
import java.lang.reflect.Method;
import java.lang.reflect.Modifier;

/** LANGUAGE.md, rules 7 and 12: no call throws, whatever its arguments are, and what a run makes stays small. */
public final class RoomTest {
    private static final Check CHECK = new Check();
    private static final int CALLS = 512;
    private static final int[] VALUES = {Integer.MIN_VALUE, -60, -1, 0, 1, 2, 11, 12, 39, 40, 160, 719, 720, 5000,
        Integer.MAX_VALUE};
    private static final com.sun.management.ThreadMXBean THREADS =
            (com.sun.management.ThreadMXBean) ManagementFactory.getThreadMXBean();

    public static void main(String[] args) {
        anyArguments();
        room();
        CHECK.end();
    }

    /** Every method with every combination of odd values, on wheels in ever other states. */
    private static void anyArguments() {
        LightWheel x = new LightWheel();
        int calls = 0;
        for (Method method : LightWheel.class.getDeclaredMethods()) {
            if (!Modifier.isPublic(method.getModifiers())) {
                continue;
            }
            int count = method.getParameterCount();
            // Four arguments would be too many combinations of all values: the middle ones stand for them.
            int from = count == 4 ? 2 : 0;
            int many = count == 4 ? 7 : VALUES.length;
            for (int number = 0; number < Math.pow(many, count); number++) {
                if (calls % 400 == 0) {
                    x = new LightWheel();
                    if (calls % 800 == 0) {
                        Scene.busy(x);
                    }
                }
                calls++;
                Object[] arguments = new Object[count];
                for (int i = 0, rest = number; i < count; i++, rest /= many) {
                    arguments[i] = VALUES[from + rest % many];
                }
                answers(x, method, arguments);
            }
        }
        CHECK.holds("many calls", calls > 10000);
    }

    private static void answers(LightWheel x, Method method, Object[] arguments) {
        try {
            method.invoke(x, arguments);
        } catch (InvocationTargetException e) {
            CHECK.holds(method.getName() + java.util.Arrays.toString(arguments) + " threw " + e.getCause(), false);
        } catch (IllegalAccessException e) {
            CHECK.holds(method.getName() + " can be called", false);
        }
    }

    /** The room has some 7.3 million fields and elements; of eight bytes each that is far more than a wheel takes. */
    private static void room() {
        run(new LightWheel());
        long before = THREADS.getThreadAllocatedBytes(Thread.currentThread().getId());
        LightWheel x = new LightWheel();
        long made = THREADS.getThreadAllocatedBytes(Thread.currentThread().getId());
        run(x);
        long after = THREADS.getThreadAllocatedBytes(Thread.currentThread().getId());
        CHECK.holds("a wheel takes less than a million bytes: " + (made - before), made - before < 1000000);
        CHECK.holds("its calls take next to nothing: " + (after - made), after - made < 100000);
    }

    private static void run(LightWheel x) {
        Scene.busy(x);
        for (int i = 0; i < CALLS - 60; i++) {
            switch (i % 9) {
                case 0 -> x.run(20);
                case 1 -> x.bestSpeed(40);
                case 2 -> x.gaps(200);
                case 3 -> x.ticksAround();
                case 4 -> x.paint(0, 0, 0, 1);
                case 5 -> x.load(i % 2);
                case 6 -> x.count(6);
                case 7 -> x.meetings(0, 1);
                default -> x.undo();
            }
        }
    }
}
