import java.lang.reflect.InvocationTargetException;
import java.lang.reflect.Method;
import java.lang.reflect.Modifier;
import java.util.ArrayList;
import java.util.Comparator;
import java.util.List;

/** Calls with any numbers, in any order: none may throw. */
public final class WildTest {
    private static final int RUNS = 200;
    private static final int CALLS = 512;
    private static final int[] EDGES = {Integer.MIN_VALUE, Integer.MIN_VALUE + 1, -100, -2, -1, 0, 1, 2, 3, 4, 6, 7, 8,
        9, 20, 21, 24, 63, 64, 90, 99, 100, 127, 128, 1 << 30, Integer.MAX_VALUE - 1, Integer.MAX_VALUE};
    private static final String SIGNS = "mvkep:;-0123456789yna";

    private static long seed = 17;

    private static int number(int bound) {
        seed = seed * 6364136223846793005L + 1442695040888963407L;
        return (int) ((seed >>> 33) % bound);
    }

    private static int wild() {
        return number(3) == 0 ? EDGES[number(EDGES.length)] : number(8);
    }

    private static long wildBytes() {
        long bytes = 0;
        for (int i = 0; i < 8; i++) {
            bytes = bytes << 8 | (number(20) == 0 ? number(256) : SIGNS.charAt(number(SIGNS.length())));
        }
        return bytes;
    }

    public static void main(String[] args) throws IllegalAccessException {
        List<Method> calls = new ArrayList<>();
        for (Method method : GalleryRows.class.getDeclaredMethods()) {
            if (Modifier.isPublic(method.getModifiers())) {
                calls.add(method);
            }
        }
        calls.sort(Comparator.comparing(Method::getName));
        for (int run = 0; run < RUNS; run++) {
            GalleryRows x = new GalleryRows();
            for (int i = 0; i < CALLS; i++) {
                call(x, calls.get(number(calls.size())), run, i);
            }
        }
        System.out.println("WildTest: none threw");
    }

    private static void call(GalleryRows x, Method method, int run, int i) throws IllegalAccessException {
        Object[] values = new Object[method.getParameterCount()];
        StringBuilder told = new StringBuilder();
        for (int k = 0; k < values.length; k++) {
            boolean isLong = method.getParameterTypes()[k] == long.class;
            values[k] = isLong ? (Object) wildBytes() : (Object) wild();
            told.append(k == 0 ? "" : ", ").append(values[k]);
        }
        try {
            method.invoke(x, values);
        } catch (InvocationTargetException thrown) {
            System.out.println("run " + run + ", call " + i + ": " + method.getName() + "(" + told + ") threw "
                + thrown.getCause());
            System.exit(1);
        }
    }
}
