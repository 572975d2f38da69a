import java.lang.reflect.Array;
import java.lang.reflect.Field;
import java.lang.reflect.InvocationTargetException;
import java.lang.reflect.Method;
import java.lang.reflect.Modifier;
import java.util.ArrayDeque;
import java.util.ArrayList;
import java.util.Arrays;
import java.util.Collections;
import java.util.Comparator;
import java.util.Deque;
import java.util.IdentityHashMap;
import java.util.List;
import java.util.Objects;
import java.util.Random;
import java.util.Set;

/**
 * No call throws, whatever it is given and however often (also behind the 512th, where answers are
 * free), and an object stays as small as it was made, so that all objects of a run have room.
 */
public final class LastingTest {
    private static final int DESKS = 60;
    private static final int CALLS = 5000;
    // Even a new desk for each of 512 calls is then a small part of the room that a run has.
    private static final int MOST_OBJECTS = 100;
    private static final int MOST_CELLS = 2000;
    private static final int[] ODD = {Integer.MIN_VALUE, Integer.MIN_VALUE + 1, -65536, -33, -32, -2,
        -1, 4, 8, 9, 10, 12, 16, 28, 29, 31, 32, 33, 40, 41, 63, 64, 65, 80, 81, 255, 256, 998, 999,
        1000, 1001, 1023, 1024, 9999, 10000, 65536, Integer.MAX_VALUE - 1, Integer.MAX_VALUE};

    private static int wrong = 0;

    public static void main(String[] args) throws IllegalAccessException {
        List<Method> calls = calls();
        for (int seed = 0; seed < DESKS; seed++) {
            Random random = new Random(seed);
            InstallDesk desk = new InstallDesk();
            int[] made = size(desk);
            due("a desk has few objects: " + made[0], made[0] <= MOST_OBJECTS);
            due("a desk has few fields and elements: " + made[1], made[1] <= MOST_CELLS);
            for (int i = 0; i < CALLS && wrong == 0; i++) {
                call(desk, calls.get(random.nextInt(calls.size())), random);
            }
            int[] used = size(desk);
            due("no object was added", used[0] == made[0]);
            due("no field or element was added", used[1] == made[1]);
        }
        System.out.println(wrong == 0 ? DESKS * CALLS + " calls, and none threw"
            : wrong + " things are not as due");
        if (wrong != 0) {
            System.exit(1);
        }
    }

    private static void due(String what, boolean fine) {
        if (!fine) {
            wrong++;
            System.out.println("not as due: " + what);
        }
    }

    /** In an order of their own, as Java promises none: the same seed must give the same calls. */
    private static List<Method> calls() {
        List<Method> calls = new ArrayList<>();
        for (Method m : InstallDesk.class.getDeclaredMethods()) {
            if (Modifier.isPublic(m.getModifiers())) {
                calls.add(m);
                // More of what fills a desk: on an empty one most questions tell nothing.
                if (m.getName().matches("letter|find|rule|use|keep")) {
                    calls.add(m);
                    calls.add(m);
                }
            }
        }
        calls.sort(Comparator.comparing(Method::getName));
        return calls;
    }

    private static void call(InstallDesk desk, Method m, Random random)
            throws IllegalAccessException {
        Object[] values = new Object[m.getParameterCount()];
        boolean odd = random.nextInt(4) == 0;
        for (int i = 0; i < values.length; i++) {
            boolean truth = m.getParameterTypes()[i] == boolean.class;
            values[i] = truth ? (Object) random.nextBoolean() : (Object) number(odd, random);
        }
        try {
            m.invoke(desk, values);
        } catch (InvocationTargetException e) {
            due(m.getName() + Arrays.toString(values) + " threw " + e.getCause(), false);
        }
    }

    private static int number(boolean odd, Random random) {
        if (!odd || random.nextBoolean()) {
            return random.nextInt(4);
        }
        return random.nextInt(8) == 0 ? random.nextInt() : ODD[random.nextInt(ODD.length)];
    }

    /** How many objects and arrays hang on a desk, and how many fields and elements these have. */
    private static int[] size(Object desk) throws IllegalAccessException {
        Set<Object> seen = Collections.newSetFromMap(new IdentityHashMap<>());
        Deque<Object> open = new ArrayDeque<>();
        open.add(desk);
        int cells = 0;
        while (!open.isEmpty()) {
            Object next = open.remove();
            if (!seen.add(next)) {
                continue;
            }
            if (next instanceof Object[]) {
                Arrays.stream((Object[]) next).filter(Objects::nonNull).forEach(open::add);
            }
            cells += next.getClass().isArray() ? Array.getLength(next) : addFields(next, open);
        }
        return new int[] {seen.size(), cells};
    }

    private static int addFields(Object holder, Deque<Object> open) throws IllegalAccessException {
        int fields = 0;
        for (Field f : holder.getClass().getDeclaredFields()) {
            if (!Modifier.isStatic(f.getModifiers())) {
                fields++;
                f.setAccessible(true);
                if (!f.getType().isPrimitive() && f.get(holder) != null) {
                    open.add(f.get(holder));
                }
            }
        }
        return fields;
    }
}
