import com.sun.management.ThreadMXBean;
import java.lang.management.ManagementFactory;
import java.lang.reflect.Array;
import java.lang.reflect.Field;
import java.lang.reflect.Modifier;
import java.util.ArrayDeque;
import java.util.ArrayList;
import java.util.Collections;
import java.util.IdentityHashMap;
import java.util.List;
import java.util.Random;
import java.util.Set;

/** "All memory is the class's own, made once.": what a desk is made of, and that no call makes more. */
public final class MemoryTest {
    private static final int CALLS = 512;
    private static final int RUNS = 20;
    private static final int MOST_OBJECTS = 1000;
    private static final int MOST_ELEMENTS = 40000;
    private static final Check CHECK = new Check();

    public static void main(String[] args) throws IllegalAccessException {
        madeOnce();
        ownClasses();
        notShared();
        noneInTheClass();
        littleRoom();
        noBytesMade();
        CHECK.end("MemoryTest");
    }

    private static void madeOnce() throws IllegalAccessException {
        CHECK.sentence("All memory is .. made once. (a desk is of the same objects after 512 calls)");
        for (int run = 0; run < RUNS; run++) {
            Random random = new Random(run);
            SturmDesk x = new SturmDesk();
            Set<Object> before = partsOf(x);
            for (int k = 0; k < CALLS; k++) {
                new AnyCall(random).on(x);
            }
            Set<Object> after = partsOf(x);
            CHECK.due("run " + run + ": how many objects and arrays", after.size(), before.size());
            CHECK.due("run " + run + ": all of them from the constructor", before.containsAll(after) ? 1 : 0, 1);
        }
    }

    private static void ownClasses() throws IllegalAccessException {
        CHECK.sentence("All memory is the class's own (its own classes, arrays of them and of numbers)");
        for (Object part : partsOf(new SturmDesk())) {
            Class<?> c = part.getClass();
            while (c.isArray()) {
                c = c.getComponentType();
            }
            boolean own = c.isPrimitive() || c == SturmDesk.class || c.getEnclosingClass() == SturmDesk.class;
            CHECK.due(part.getClass() + " is the class's own", own ? 1 : 0, 1);
        }
    }

    private static void notShared() throws IllegalAccessException {
        CHECK.sentence("All memory is the class's own (two objects share none)");
        SturmDesk a = new SturmDesk();
        SturmDesk b = new SturmDesk();
        Random random = new Random(1);
        for (int k = 0; k < CALLS; k++) {
            new AnyCall(random).on(a);
            new AnyCall(random).on(b);
        }
        CHECK.due("two desks share nothing", Collections.disjoint(partsOf(a), partsOf(b)) ? 1 : 0, 1);
    }

    private static void noneInTheClass() {
        CHECK.sentence("All memory is the class's own (nothing but constants is static)");
        List<Class<?>> all = new ArrayList<>(List.of(SturmDesk.class.getDeclaredClasses()));
        all.add(SturmDesk.class);
        for (Class<?> c : all) {
            for (Field f : c.getDeclaredFields()) {
                boolean constant = Modifier.isFinal(f.getModifiers()) && f.getType().isPrimitive();
                CHECK.due(f + " is a constant, if static",
                        !Modifier.isStatic(f.getModifiers()) || constant ? 1 : 0, 1);
            }
        }
    }

    private static void littleRoom() throws IllegalAccessException {
        CHECK.sentence("All memory is .. made once. (and is small)");
        Set<Object> parts = partsOf(new SturmDesk());
        long elements = 0;
        for (Object part : parts) {
            elements += part.getClass().isArray() ? Array.getLength(part) : fieldsOf(part.getClass()).size();
        }
        CHECK.due(parts.size() + " objects and arrays are few", parts.size() <= MOST_OBJECTS ? 1 : 0, 1);
        CHECK.due(elements + " fields and elements are few", elements <= MOST_ELEMENTS ? 1 : 0, 1);
    }

    private static void noBytesMade() {
        CHECK.sentence("All memory is .. made once. (a call makes no objects)");
        calls(new SturmDesk());
        ThreadMXBean bean = (ThreadMXBean) ManagementFactory.getThreadMXBean();
        long own = Thread.currentThread().getId();
        bean.getThreadAllocatedBytes(own);
        SturmDesk x = new SturmDesk();
        long before = bean.getThreadAllocatedBytes(own);
        calls(x);
        long used = bean.getThreadAllocatedBytes(own) - before;
        // Asking for the count may itself take a few bytes; a single wide number is over 600.
        CHECK.due("bytes made by calls, " + used + ", are few", used < 600 ? 1 : 0, 1);
    }

    /** Every call of the face, none of which throws. */
    private static long calls(SturmDesk x) {
        long sum = 0;
        for (int k = 0; k < 9; k++) {
            x.put(0, k, 1000000007 * (k + 1));
            x.put(1, k, -1234567891 * (k + 3));
        }
        x.put(0, 8, -x.degree(0));
        x.put(0, 0, 77);
        for (int p = 0; p < 2; p++) {
            sum += x.roots(p) + x.repeated(p) + x.apart(p) + x.sign(p, 77, 5) + x.between(p, -9, 1, 9, 2);
            for (int i = 0; i < x.roots(p); i++) {
                sum += x.multiple(p, i) + x.side(p, i, 3, 1) + x.signAt(p, i);
                sum += x.floor(p, i, true, 90) + x.floor(p, i, false, 300) + x.out(2);
                sum += x.order(p == 0 ? i : 0, 0);
            }
        }
        return sum + x.common();
    }

    /** All objects and arrays that can be reached from the desk, itself included. */
    private static Set<Object> partsOf(SturmDesk x) throws IllegalAccessException {
        Set<Object> found = Collections.newSetFromMap(new IdentityHashMap<>());
        ArrayDeque<Object> open = new ArrayDeque<>();
        reach(x, found, open);
        while (!open.isEmpty()) {
            Object part = open.remove();
            if (part instanceof Object[] row) {
                for (Object element : row) {
                    reach(element, found, open);
                }
            } else if (!part.getClass().isArray()) {
                for (Field f : fieldsOf(part.getClass())) {
                    if (!f.getType().isPrimitive()) {
                        f.setAccessible(true);
                        reach(f.get(part), found, open);
                    }
                }
            }
        }
        return found;
    }

    private static void reach(Object part, Set<Object> found, ArrayDeque<Object> open) {
        if (part != null && found.add(part)) {
            open.add(part);
        }
    }

    private static List<Field> fieldsOf(Class<?> c) {
        List<Field> all = new ArrayList<>();
        for (Field f : c.getDeclaredFields()) {
            if (!Modifier.isStatic(f.getModifiers())) {
                all.add(f);
            }
        }
        return all;
    }
}
