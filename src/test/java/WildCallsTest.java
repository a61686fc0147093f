import java.lang.reflect.InvocationTargetException;
import java.lang.reflect.Method;
import java.lang.reflect.Modifier;
import java.util.ArrayList;
import java.util.Comparator;
import java.util.List;
import java.util.NoSuchElementException;
import java.util.Random;

/** Runs of any calls with any arguments: nothing is ever thrown but by at, and the same calls answer the same. */
public final class WildCallsTest {
    private static final Checks CHECKS = new Checks();
    private static final int[] EDGES = {Integer.MIN_VALUE, Integer.MIN_VALUE + 1, -10000, -9999, -1000, -999, -100, -2,
        -1, 0, 1, 2, 3, 4, 5, 7, 8, 9, 15, 16, 30, 31, 40, 60, 61, 99, 100, 300, 511, 512, 999, 1000, 9999, 10000,
        99999, Integer.MAX_VALUE - 1, Integer.MAX_VALUE};

    public static void main(String[] args) throws IllegalAccessException {
        List<Method> face = new ArrayList<>();
        for (Method method : WhoseStreet.class.getDeclaredMethods()) {
            if (Modifier.isPublic(method.getModifiers())) {
                face.add(method);
            }
        }
        face.sort(Comparator.comparing(Method::getName));
        CHECKS.due("methods of the face", face.size(), 27);
        for (int seed = 0; seed < 400; seed++) {
            run(face, seed);
        }
        CHECKS.end();
    }

    private static void run(List<Method> face, int seed) throws IllegalAccessException {
        Random random = new Random(seed);
        WhoseStreet one = new WhoseStreet();
        WhoseStreet other = new WhoseStreet();
        for (int call = 0; call < 512; call++) {
            Method method = face.get(random.nextInt(face.size()));
            Object[] values = new Object[method.getParameterCount()];
            for (int i = 0; i < values.length; i++) {
                values[i] = any(method.getParameterTypes()[i], random);
            }
            Object answer = answer(one, method, values);
            boolean same = answer.equals(answer(other, method, values));
            CHECKS.due("seed " + seed + ", call " + call + ": " + method.getName() + " answers the same", same, true);
        }
    }

    private static Object any(Class<?> type, Random random) {
        if (type == boolean.class) {
            return random.nextBoolean();
        }
        if (type == long.class) {
            return random.nextBoolean() ? random.nextLong() : 0x2020_2020_2020_2020L;
        }
        int kind = random.nextInt(4);
        if (kind == 0) {
            return EDGES[random.nextInt(EDGES.length)];
        }
        return kind == 1 ? random.nextInt() >> random.nextInt(32) : Integer.valueOf(random.nextInt(10) - 1);
    }

    private static Object answer(WhoseStreet street, Method method, Object[] values) throws IllegalAccessException {
        try {
            return method.invoke(street, values);
        } catch (InvocationTargetException e) {
            boolean due = method.getName().equals("at") && e.getCause().getClass() == NoSuchElementException.class;
            CHECKS.due(method.getName() + " threw " + e.getCause(), due, true);
            return "thrown";
        }
    }
}
