import java.lang.reflect.InvocationTargetException;
import java.lang.reflect.Method;
import java.lang.reflect.Modifier;
import java.util.ArrayList;
import java.util.HashMap;
import java.util.List;
import java.util.Map;
import java.util.regex.Matcher;
import java.util.regex.Pattern;

/**
 * A new desk and a run of calls on it, told as a script:
 *
 *   '1;e(t)-1'                    the letters are written
 *   read(0)=1                     a call and the answer that is due (left out: any)
 *   120*write(116)                a call many times
 *   hand()=[1,0,3]                nine calls, with 0 to 8 as the last argument; what is not told is 0
 *
 * An answer that is due is a NUMBER told as a, -a or a/b (all left by 9973), or NONE, UNKNOWN ..
 */
final class DeskRun {
    static final int PRIME = 9973;

    /** The document promises nothing of later calls. */
    private static final int CALL_LIMIT = 512;

    private static final List<String> NAMES = List.of("NONE", "UNKNOWN", "OUTSIDE", "NOT", "FULL", "WRONG");
    private static final Pattern STEP =
            Pattern.compile("\\s*(?:'([^']*)'|(?:(\\d+)\\*)?([a-z]+)\\(([-,\\d]*)\\)(?:=(\\S+))?)\\s*");
    private static final Map<String, Method> CALLS = callsOfTheFace();

    final List<String> wrong = new ArrayList<>();

    private final ShadowRowDesk desk = new ShadowRowDesk();
    private int calls = 0;

    private static Map<String, Method> callsOfTheFace() {
        Map<String, Method> calls = new HashMap<>();
        for (Method method : ShadowRowDesk.class.getDeclaredMethods()) {
            if (Modifier.isPublic(method.getModifiers())) {
                calls.put(method.getName(), method);
            }
        }
        return calls;
    }

    /** A NUMBER that is due, or one of the names. */
    static int due(String told) {
        if (NAMES.contains(told)) {
            return -1 - NAMES.indexOf(told);
        }
        int slash = told.indexOf('/');
        if (slash < 0) {
            return left(Long.parseLong(told));
        }
        return by(left(Long.parseLong(told.substring(0, slash))), left(Long.parseLong(told.substring(slash + 1))));
    }

    private static int left(long a) {
        return (int) Math.floorMod(a, (long) PRIME);
    }

    /** Found by trying, straight from the document's words. */
    private static int by(int a, int b) {
        for (int q = 0; q < PRIME; q++) {
            if (left((long) q * b) == a) {
                return q;
            }
        }
        throw new IllegalStateException(a + " by " + b);
    }

    int call(String name, int... arguments) {
        Method method = CALLS.get(name);
        if (method == null || method.getParameterCount() != arguments.length) {
            throw new IllegalStateException("no call " + name + " with " + arguments.length + " arguments");
        }
        calls++;
        if (calls > CALL_LIMIT) {
            throw new IllegalStateException("a run of more calls than the document speaks of");
        }
        Object[] boxed = new Object[arguments.length];
        for (int i = 0; i < boxed.length; i++) {
            boxed[i] = arguments[i];
        }
        try {
            return (Integer) method.invoke(desk, boxed);
        } catch (InvocationTargetException thrown) {
            wrong.add(name + " threw " + thrown.getCause());
            return Integer.MIN_VALUE;
        } catch (IllegalAccessException unseen) {
            throw new IllegalStateException(unseen);
        }
    }

    DeskRun go(String script) {
        Matcher step = STEP.matcher(script);
        int end = 0;
        while (end < script.length()) {
            if (!step.find(end) || step.start() != end) {
                throw new IllegalStateException("no script: " + script.substring(end));
            }
            end = step.end();
            goStep(step);
        }
        return this;
    }

    private void goStep(Matcher step) {
        if (step.group(1) != null) {
            for (char letter : step.group(1).toCharArray()) {
                call("write", letter);
            }
            return;
        }
        int times = step.group(2) == null ? 1 : Integer.parseInt(step.group(2));
        for (int i = 0; i < times; i++) {
            goCall(step.group(3), numbers(step.group(4)), step.group(5));
        }
    }

    private static int[] numbers(String told) {
        if (told.isEmpty()) {
            return new int[0];
        }
        String[] parts = told.split(",");
        int[] numbers = new int[parts.length];
        for (int i = 0; i < parts.length; i++) {
            numbers[i] = Integer.parseInt(parts[i]);
        }
        return numbers;
    }

    private void goCall(String name, int[] arguments, String want) {
        if (want == null) {
            call(name, arguments);
        } else if (want.startsWith("[")) {
            String[] parts = want.substring(1, want.length() - 1).split(",");
            for (int k = 0; k < 9; k++) {
                int[] longer = java.util.Arrays.copyOf(arguments, arguments.length + 1);
                longer[arguments.length] = k;
                compare(name, longer, k < parts.length ? due(parts[k]) : 0);
            }
        } else {
            compare(name, arguments, due(want));
        }
    }

    private void compare(String name, int[] arguments, int want) {
        int got = call(name, arguments);
        if (got != want) {
            wrong.add(name + java.util.Arrays.toString(arguments) + " answered " + got + ", due is " + want);
        }
    }
}
