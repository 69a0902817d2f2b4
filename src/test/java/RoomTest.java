import java.lang.management.ManagementFactory;
import java.lang.reflect.InvocationTargetException;
import java.lang.reflect.Method;
import java.lang.reflect.Modifier;
import java.util.ArrayList;
import java.util.Comparator;
import java.util.List;
import java.util.Random;

/** That a call makes no objects, and that no arguments whatever make one throw. */
public final class RoomTest {
    private static final int[] ODD = {0, 1, 2, 3, 4, 5, 6, 7, 8, 9, -1, 255, 256, 500, 501, 9972, 9973,
        Integer.MIN_VALUE, Integer.MIN_VALUE + 3, Integer.MAX_VALUE};
    private static final long ROUNDS = 2000;

    private static int wrong = 0;

    private RoomTest() {
    }

    public static void main(String[] args) throws Exception {
        oddArguments();
        noObjects();
        System.out.println(wrong == 0 ? "no call throws or makes objects" : wrong + " wrong");
        if (wrong != 0) {
            System.exit(1);
        }
    }

    private static void oddArguments() throws IllegalAccessException {
        List<Method> methods = new ArrayList<>();
        for (Method method : ShadowRowDesk.class.getDeclaredMethods()) {
            if (Modifier.isPublic(method.getModifiers())) {
                methods.add(method);
            }
        }
        // Their order is the machine's own; runs should be the same everywhere.
        methods.sort(Comparator.comparing(Method::getName));
        Random random = new Random(1);
        for (int run = 0; run < 400; run++) {
            ShadowRowDesk desk = new ShadowRowDesk();
            for (int i = 0; i < 512; i++) {
                call(desk, methods.get(random.nextInt(methods.size())), random);
            }
        }
    }

    private static void call(ShadowRowDesk desk, Method method, Random random) throws IllegalAccessException {
        Object[] arguments = new Object[method.getParameterCount()];
        for (int i = 0; i < arguments.length; i++) {
            arguments[i] = random.nextInt(8) == 0 ? random.nextInt() : ODD[random.nextInt(ODD.length)];
        }
        try {
            int got = (Integer) method.invoke(desk, arguments);
            if (got < -6 || got > 9972) {
                wrong++;
                System.out.println(method.getName() + " answered " + got);
            }
        } catch (InvocationTargetException thrown) {
            wrong++;
            System.out.println(method.getName() + " threw " + thrown.getCause());
        }
    }

    /** The text is as dear to read as 120 letters can be, and WRONG at its end, so that it stays. */
    private static void noObjects() {
        ShadowRowDesk desk = new ShadowRowDesk();
        String dear = "1;" + "i(t)*".repeat(23) + "t";
        for (int i = 0; i < dear.length(); i++) {
            desk.write(dear.charAt(i));
        }
        callAll(desk);
        com.sun.management.ThreadMXBean threads =
                (com.sun.management.ThreadMXBean) ManagementFactory.getThreadMXBean();
        long id = Thread.currentThread().getId();
        long before = threads.getThreadAllocatedBytes(id);
        for (int round = 0; round < ROUNDS; round++) {
            callAll(desk);
        }
        long made = threads.getThreadAllocatedBytes(id) - before;
        if (made / ROUNDS > 0) {
            wrong++;
            System.out.println("calls made " + made + " bytes of objects in " + ROUNDS + " rounds");
        }
    }

    private static void callAll(ShadowRowDesk desk) {
        desk.fault();
        desk.read(0);
        desk.compose(0, 1, 2);
        desk.invert(1, 0);
        desk.part(2, 1, 0);
        desk.move(3, 1, 5);
        desk.stretch(2, 3, 7);
        desk.series(0, 3, 3);
        desk.polynomial(0, 3, 3);
        desk.value(0, 8, 5);
        desk.connect(0, 1, 8, 3);
        desk.differ(0, 1);
        desk.take(0, 6);
        desk.put(3, 3);
        desk.plus(1, 5, 3);
        desk.act(1, 2);
        desk.raise(1);
        desk.shift(4);
        desk.put(8, 0);
        desk.times();
        desk.put(8, 0);
        desk.climb(2);
        desk.swap(1, 2);
        desk.weigh(3);
        desk.hand(3);
        desk.at(4);
        desk.expand(2, 4);
        desk.sum(500);
        desk.keep(1);
        desk.undo();
        desk.back(1);
        desk.count(0);
    }
}
