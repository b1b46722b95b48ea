import java.lang.reflect.InvocationTargetException;
import java.lang.reflect.Method;
import java.lang.reflect.Modifier;
import java.util.NoSuchElementException;
import java.util.Random;

/** Each call with arguments far from all that is told: nothing is thrown but what rests tells. */
public final class ExtremesTest {
    private static final int[] INTS = {Integer.MIN_VALUE, Integer.MIN_VALUE + 1, -65536, -33, -32, -3, -2, -1, 0, 1, 2, 3, 4,
        5, 6, 8, 12, 13, 31, 32, 33, 99, 9999, 1 << 20, Integer.MAX_VALUE - 1, Integer.MAX_VALUE};

    private ExtremesTest() { }

    public static void main(String[] args) throws IllegalAccessException {
        int thrown = 0;
        int calls = 0;
        for (int seed = 0; seed < 60; seed++) {
            Random random = new Random(seed);
            PassHuts x = new PassHuts();
            for (int i = 0; i < 500; i++) {
                if (i % 120 == 60) {
                    Tapes.feed(x, RandomHills.text(new RandomHills(random, random.nextInt(6)).tokens, random));
                    x.hills();
                }
                for (Method m : PassHuts.class.getDeclaredMethods()) {
                    boolean asked = Modifier.isPublic(m.getModifiers()) && random.nextInt(12) == 0
                        && (!m.getName().equals("hills") || random.nextInt(200) == 0);
                    if (asked) {
                        calls++;
                        thrown += callOnce(x, m, random);
                    }
                }
            }
        }
        System.out.println("ExtremesTest: " + calls + " calls, " + thrown + " threw");
        if (thrown > 0) {
            System.exit(1);
        }
    }

    private static Object drawn(Class<?> type, Random random) {
        if (type == boolean.class) {
            return random.nextBoolean();
        }
        if (type == long.class) {
            return random.nextBoolean() ? random.nextLong() : Tapes.eight("carry lay eat hut;; bars (not 12".substring(
                random.nextInt(24)), 0);
        }
        return INTS[random.nextInt(INTS.length)];
    }

    private static int callOnce(PassHuts x, Method m, Random random) throws IllegalAccessException {
        Object[] with = new Object[m.getParameterCount()];
        for (int i = 0; i < with.length; i++) {
            with[i] = drawn(m.getParameterTypes()[i], random);
        }
        try {
            m.invoke(x, with);
            return 0;
        } catch (InvocationTargetException e) {
            boolean told = m.getName().equals("rests") && e.getCause() instanceof NoSuchElementException;
            if (!told) {
                System.out.println(m.getName() + " threw " + e.getCause());
            }
            return told ? 0 : 1;
        }
    }
}
