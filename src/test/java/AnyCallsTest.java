import java.lang.reflect.InvocationTargetException;
import java.lang.reflect.Method;
import java.lang.reflect.Modifier;
import java.util.Arrays;
import java.util.Comparator;
import java.util.List;
import java.util.Random;

/**
 * Whatever is asked, in whatever state, and long after the 512 calls whose answers are promised: a call answers, or the
 * program itself throws what the call's face names. Nothing that the machine throws ever reaches the caller.
 */
public final class AnyCallsTest {
    private static final int RUNS = 40;
    private static final int CALLS = 20_000;
    private static final int[] NUMBERS = {Integer.MIN_VALUE, Integer.MIN_VALUE + 1, -65_536, -10_000, -41, -2, -1, 0, 1, 2, 3,
        4, 5, 6, 8, 9, 10, 11, 15, 16, 19, 20, 21, 25, 26, 31, 32, 39, 40, 41, 59, 60, 61, 98, 99, 100, 101, 199, 200, 201,
        999, 1_000, 1_001, 9_998, 9_999, 10_000, 32_768, 65_535, 65_536, Integer.MAX_VALUE - 1, Integer.MAX_VALUE};
    private static final int SMALL_FROM = 6;
    private static final int SMALL_UNTIL = 18;

    public static void main(String[] args) throws IllegalAccessException {
        Method[] face = Arrays.stream(IncidentKinds.class.getDeclaredMethods())
            .filter(method -> Modifier.isPublic(method.getModifiers()))
            .sorted(Comparator.comparing(Method::getName)).toArray(Method[]::new);
        for (int run = 0; run < RUNS; run++) {
            Random random = new Random(run);
            IncidentKinds object = new IncidentKinds();
            // Every other run begins with all kinds, so that its calls soon fill the rest too.
            for (int kind = 0; kind < 40 && run % 2 == 0; kind++) {
                object.kind(random.nextInt(kind + 1) - 1);
            }
            for (int call = 0; call < CALLS; call++) {
                Method method = face[random.nextInt(face.length)];
                ask(object, method, draw(random, method.getParameterCount()), call);
            }
        }
        Calls.end();
    }

    /** Mostly small numbers, so that much is taken and the state grows; the far ones in between. */
    private static Object[] draw(Random random, int count) {
        Object[] arguments = new Object[count];
        boolean small = random.nextBoolean();
        for (int i = 0; i < count; i++) {
            arguments[i] = small ? NUMBERS[SMALL_FROM + random.nextInt(SMALL_UNTIL - SMALL_FROM)]
                : random.nextInt(4) > 0 ? NUMBERS[random.nextInt(NUMBERS.length)] : random.nextInt();
        }
        return arguments;
    }

    private static void ask(IncidentKinds object, Method method, Object[] arguments, int call)
            throws IllegalAccessException {
        try {
            method.invoke(object, arguments);
        } catch (InvocationTargetException e) {
            Throwable thrown = e.getCause();
            boolean named = List.of(method.getExceptionTypes()).contains(thrown.getClass());
            StackTraceElement[] trace = thrown.getStackTrace();
            boolean byTheProgram = trace.length > 0 && trace[0].getClassName().startsWith(IncidentKinds.class.getName());
            if (!named || !byTheProgram) {
                Calls.fail("call " + call + ", " + method.getName() + Arrays.toString(arguments) + ", threw " + thrown);
            }
        }
    }
}
