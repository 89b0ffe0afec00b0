import java.lang.reflect.Field;
import java.lang.reflect.InvocationTargetException;
import java.lang.reflect.Method;
import java.lang.reflect.Modifier;
import java.util.ArrayList;
import java.util.Comparator;
import java.util.List;
import java.util.Random;

/** Calls with numbers from all edges: what a call throws is what it declares, and is thrown by the program itself. */
public final class PayHouseThrows {
    private static final int[] INTS = {Integer.MIN_VALUE, Integer.MIN_VALUE + 1, -1000000001, -65536, -2, -1, 0, 1, 2, 3, 4, 5, 6,
        7, 8, 9, 10, 11, 12, 19, 20, 21, 58, 59, 60, 61, 89, 90, 119, 120, 699, 700, 1000000001, Integer.MAX_VALUE - 1,
        Integer.MAX_VALUE};
    private static final long[] LONGS = {Long.MIN_VALUE, Long.MIN_VALUE + 1, -1000000001L, -1000000000L, -1, 0, 1, 2, 9, 'a', 'h',
        Bounds.n("ab"), Bounds.n("pay"), Bounds.n("zzzzzzzz"), Bounds.n("a=1;"), Bounds.n("pay h=1;"), Bounds.n("0h0 0-0="),
        Bounds.n("1;"), Bounds.n("fact h"), 999999999L, 1000000000L, 1000000001L, 1L << 32, 1L << 40, Long.MAX_VALUE - 1,
        Long.MAX_VALUE};
    private static long calls;
    private static int wrong;

    public static void main(String[] args) {
        List<Method> face = new ArrayList<>();
        for (Method method : PayHouse.class.getDeclaredMethods()) {
            if (Modifier.isPublic(method.getModifiers())) {
                face.add(method);
            }
        }
        face.sort(Comparator.comparing(Method::getName));
        for (int seed = 0; seed < 400; seed++) {
            Random random = new Random(seed);
            PayHouse x = seed % 4 == 0 ? new PayHouse() : seed % 4 == 1 ? Bounds.standing() : Bounds.people(seed % 7);
            for (int i = 0; i < 450; i++) {
                play(x, face.get(random.nextInt(face.size())), random, seed);
            }
            if (x.errors() != 0) {
                tell("errors() of the house " + seed);
            }
        }
        missing(face);
        System.out.println(calls + " calls from all edges, " + wrong + " wrong");
        if (wrong != 0) {
            System.exit(1);
        }
    }

    /** Houses in which one object of an array is missing: the class looks at what it takes from there. */
    private static void missing(List<Method> face) {
        int taken = 0;
        for (int i = 0; takeAway(Bounds.standing(), i); i++) {
            for (int seed = 0; seed < 4; seed++) {
                PayHouse x = Bounds.standing();
                takeAway(x, i);
                Random random = new Random(seed * 1000L + i);
                for (int call = 0; call < 400; call++) {
                    play(x, face.get(random.nextInt(face.size())), random, -i);
                }
            }
            taken++;
        }
        if (taken < 60) {
            tell("only " + taken + " objects could be taken away");
        }
    }

    private static boolean takeAway(PayHouse x, int number) {
        List<Object[]> arrays = new ArrayList<>();
        collect(x, arrays);
        int left = number;
        for (Object[] array : arrays) {
            for (int i = 0; i < array.length; i++) {
                if (array[i] != null && left-- == 0) {
                    array[i] = null;
                    return true;
                }
            }
        }
        return false;
    }

    private static void collect(Object holder, List<Object[]> arrays) {
        for (Field field : holder.getClass().getDeclaredFields()) {
            if (!field.getType().isPrimitive() && !Modifier.isStatic(field.getModifiers())) {
                Object held = held(holder, field);
                if (held instanceof Object[] array) {
                    if (!arrays.contains(array)) {
                        arrays.add(array);
                    }
                } else if (held != null && !held.getClass().isArray()) {
                    collect(held, arrays);
                }
            }
        }
    }

    private static Object held(Object holder, Field field) {
        try {
            field.setAccessible(true);
            return field.get(holder);
        } catch (IllegalAccessException e) {
            throw new IllegalStateException(e);
        }
    }

    private static void tell(String what) {
        wrong++;
        System.out.println(what);
    }

    private static void play(PayHouse x, Method method, Random random, int seed) {
        Class<?>[] types = method.getParameterTypes();
        Object[] values = new Object[types.length];
        StringBuilder words = new StringBuilder(method.getName());
        // One wrong parameter alone is met more often when most of them are small.
        boolean small = random.nextInt(3) > 0;
        for (int i = 0; i < types.length; i++) {
            boolean mild = small && random.nextInt(4) > 0;
            if (types[i] == int.class) {
                values[i] = mild ? random.nextInt(3) : INTS[random.nextInt(INTS.length)];
            } else {
                values[i] = mild ? LONGS[6 + random.nextInt(8)] : LONGS[random.nextInt(LONGS.length)];
            }
            words.append(' ').append(values[i]);
        }
        calls++;
        try {
            method.invoke(x, values);
        } catch (InvocationTargetException e) {
            check(method, e.getCause(), words + " in the house " + seed);
        } catch (IllegalAccessException e) {
            tell(words + " cannot be called");
        }
    }

    private static void check(Method method, Throwable thrown, String words) {
        boolean declared = false;
        for (Class<?> type : method.getExceptionTypes()) {
            declared = declared || type == thrown.getClass();
        }
        StackTraceElement[] trace = thrown.getStackTrace();
        boolean own = trace.length > 0 && trace[0].getClassName().startsWith("PayHouse");
        if (!declared || !own) {
            tell(words + " threw " + thrown);
        }
    }
}
