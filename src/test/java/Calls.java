import java.lang.reflect.InvocationTargetException;
import java.lang.reflect.Method;
import java.util.HashMap;
import java.util.Map;

/**
 * Calls on one new IncidentKinds, told as lines of text: a method, its arguments, '=' and what is due:
 * a number, 'ok' (a method without an answer), or a refusal: unknown, range, state, room.
 * '39 * kind 0' makes a call 39 times and wants no refusal. What stands behind '#' is for the reader.
 */
final class Calls {
    /** What an object answers after so many calls is free, so a test that makes more would test nothing. */
    private static final int MOST_CALLS = 512;
    private static final Map<String, Method> FACE = new HashMap<>();
    private static int wrong;

    private final String title;
    private final IncidentKinds object = new IncidentKinds();
    private int made;

    private Calls(String title) {
        this.title = title;
    }

    static Calls on(String title) {
        return new Calls(title);
    }

    Calls run(String lines) {
        for (String line : lines.split("\n")) {
            String text = line.replaceAll("#.*", "").trim();
            if (!text.isEmpty()) {
                runLine(text);
            }
        }
        return this;
    }

    private void runLine(String text) {
        if (text.contains("*")) {
            String[] parts = text.split("\\*");
            int times = Integer.parseInt(parts[0].trim());
            for (int i = 0; i < times; i++) {
                String got = answer(parts[1].trim());
                if (isRefusal(got)) {
                    fail(title + ": time " + i + " of " + text + " answered " + got);
                }
            }
            return;
        }
        String[] parts = text.split("=");
        String got = answer(parts[0].trim());
        String want = parts[1].trim();
        if (!got.equals(want)) {
            fail(title + ": " + parts[0].trim() + " answered " + got + ", due is " + want);
        }
    }

    /** How many calls more the object may be asked. */
    int left() {
        return MOST_CALLS - made;
    }

    /** One call, told as a line without what is due: its answer. */
    String answer(String call) {
        String[] words = call.split("\\s+");
        int[] arguments = new int[words.length - 1];
        for (int i = 0; i < arguments.length; i++) {
            arguments[i] = number(words[i + 1]);
        }
        return answer(words[0], arguments);
    }

    private static int number(String word) {
        switch (word) {
            case "MIN":
                return Integer.MIN_VALUE;
            case "MAX":
                return Integer.MAX_VALUE;
            default:
                return Integer.parseInt(word);
        }
    }

    /** One call: its answer as a number, 'ok', or the refusal's name; another exception by its class. */
    String answer(String method, int... arguments) {
        made++;
        if (made > MOST_CALLS) {
            fail(title + ": the test makes more than " + MOST_CALLS + " calls");
        }
        Object[] boxed = new Object[arguments.length];
        for (int i = 0; i < arguments.length; i++) {
            boxed[i] = arguments[i];
        }
        try {
            Object answer = method(method).invoke(object, boxed);
            return answer == null ? "ok" : answer.toString();
        } catch (InvocationTargetException e) {
            return refusal(e.getCause());
        } catch (IllegalAccessException e) {
            return e.toString();
        }
    }

    private static Method method(String name) {
        if (FACE.isEmpty()) {
            for (Method method : IncidentKinds.class.getMethods()) {
                FACE.put(method.getName(), method);
            }
        }
        if (!FACE.containsKey(name)) {
            throw new IllegalArgumentException("no method " + name);
        }
        return FACE.get(name);
    }

    /** The very class counts: an ArrayIndexOutOfBoundsException is the machine's, not a refusal. */
    static String refusal(Throwable thrown) {
        if (thrown.getClass() == IllegalArgumentException.class) {
            return "unknown";
        }
        if (thrown.getClass() == IndexOutOfBoundsException.class) {
            return "range";
        }
        if (thrown.getClass() == IllegalStateException.class) {
            return "state";
        }
        if (thrown.getClass() == UnsupportedOperationException.class) {
            return "room";
        }
        return thrown.getClass().getName();
    }

    static boolean isRefusal(String answer) {
        return !answer.equals("ok") && !answer.matches("-?\\d+");
    }

    static void fail(String message) {
        wrong++;
        System.out.println(message);
    }

    static void end() {
        System.out.println(wrong == 0 ? "all answers are as due" : wrong + " answers are not as due");
        if (wrong != 0) {
            System.exit(1);
        }
    }
}
