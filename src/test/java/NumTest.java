import java.lang.reflect.Constructor;
import java.lang.reflect.Field;
import java.lang.reflect.Method;
import java.math.BigInteger;
import java.util.Random;

/**
 * The whole numbers inside the class against BigInteger. Their rare branches (a quotient's digit
 * that was guessed too high) come up only with limbs chosen for it, so the test goes past the face.
 */
public final class NumTest {
    private static final Check CHECK = new Check();
    private static final int[] EDGE = {0, 1, 2, 0x3fffffff, 0x40000000, 0x40000001, 0x7ffffffe, 0x7fffffff};

    private static Random random = new Random(11);
    private static Class<?> num;
    private static Class<?> divider;

    public static void main(String[] args) throws Exception {
        for (Class<?> c : SturmDesk.class.getDeclaredClasses()) {
            num = c.getSimpleName().equals("Num") ? c : num;
            divider = c.getSimpleName().equals("Divider") ? c : divider;
        }
        for (int t = 0; t < 20000 && !CHECK.failed(); t++) {
            sums();
            products();
            moves();
            divisions();
        }
        fullRoom();
        longs();
        CHECK.end("NumTest");
    }

    private static BigInteger some(int most) {
        BigInteger all = BigInteger.ZERO;
        boolean edges = random.nextInt(4) > 0;
        for (int k = random.nextInt(most + 1); k > 0; k--) {
            int limb = edges ? EDGE[random.nextInt(EDGE.length)] : random.nextInt() >>> 1;
            all = all.shiftLeft(31).add(BigInteger.valueOf(limb));
        }
        return random.nextBoolean() ? all : all.negate();
    }

    private static void sums() throws Exception {
        BigInteger a = some(6);
        BigInteger b = random.nextInt(8) == 0 ? a.negate() : some(6);
        Object x = made(a);
        call(x, "add", made(b), 1);
        due("sum of " + a + " and " + b, x, a.add(b));
        x = made(a);
        call(x, "add", made(b), -1);
        due("gap of " + a + " and " + b, x, a.subtract(b));
        int by = random.nextBoolean() ? 1 : -1;
        x = made(a);
        call(x, "step", by);
        due("step of " + a, x, a.add(BigInteger.valueOf(by)));
        CHECK.due("bits of " + a, (int) call(x, "bitLength"), read(x).abs().bitLength());
        CHECK.due("same " + a, (boolean) call(made(a), "same", made(a)) ? 1 : 0, 1);
        CHECK.due("same " + a + ", " + b, (boolean) call(made(a), "same", made(b)) ? 1 : 0, a.equals(b) ? 1 : 0);
    }

    private static void products() throws Exception {
        BigInteger a = some(7);
        BigInteger b = some(5);
        Object x = made(some(3));
        call(x, "setProduct", made(a), made(b));
        due("product of " + a + " and " + b, x, a.multiply(b));
        int small = EDGE[random.nextInt(EDGE.length)];
        x = made(a);
        call(x, "times", small);
        due(a + " times " + small, x, a.multiply(BigInteger.valueOf(small)));
        if (small > 0) {
            x = made(a);
            int left = (int) call(x, "divideSmall", small);
            BigInteger[] want = a.divideAndRemainder(BigInteger.valueOf(small));
            due(a + " over " + small, x, want[0]);
            CHECK.due("rest of " + a + " by " + small, left, want[1].abs().longValue());
        }
    }

    private static void moves() throws Exception {
        BigInteger a = some(5);
        int by = random.nextInt(400) - 200;
        Object x = made(a);
        call(x, "move", by);
        due(a + " moved by " + by, x, a.shiftLeft(by));
    }

    private static void divisions() throws Exception {
        BigInteger b = some(5);
        BigInteger a = some(9);
        if (random.nextBoolean()) {
            // Just below a multiple: the guessed digit is often too high.
            a = b.multiply(some(4)).add(BigInteger.valueOf(random.nextInt(3) - 1));
        }
        if (b.signum() != 0) {
            Object d = maker(divider).newInstance();
            call(d, "divide", made(a), made(b));
            BigInteger[] want = a.divideAndRemainder(b);
            due(a + " over " + b, field(d, "quotient").get(d), want[0]);
            due("rest of " + a + " by " + b, field(d, "rest").get(d), want[1]);
        }
        Object x = made(a);
        call(maker(divider).newInstance(), "reduceToCommon", x, made(b));
        due("divisor of " + a + " and " + b, x, a.gcd(b));
    }

    /** What has no room becomes 0, and nothing throws. */
    private static void fullRoom() throws Exception {
        BigInteger all = BigInteger.ONE.shiftLeft(160 * 31).subtract(BigInteger.ONE);
        BigInteger half = BigInteger.ONE.shiftLeft(80 * 31);
        String[] calls = {"step", "times", "move"};
        for (String name : calls) {
            Object x = made(all);
            call(x, name, name.equals("step") ? 1 : 2);
            due(name + " without room", x, BigInteger.ZERO);
        }
        Object x = made(all);
        call(x, "add", made(all), 1);
        due("sum without room", x, BigInteger.ZERO);
        call(x, "setProduct", made(half), made(half));
        due("product without room", x, BigInteger.ZERO);
        Constructor<?> maker = num.getDeclaredConstructor(boolean.class);
        maker.setAccessible(true);
        Object narrow = maker.newInstance(false);
        call(narrow, "copy", made(all));
        due("copy without room", narrow, BigInteger.ZERO);
        Object d = maker(divider).newInstance();
        call(d, "divide", made(half), made(BigInteger.ZERO));
        due("quotient by 0", field(d, "quotient").get(d), BigInteger.ZERO);
    }

    private static void longs() throws Exception {
        long[] all = {0, 1, -1, Integer.MAX_VALUE, Integer.MIN_VALUE, 1L << 31, 1L << 62, Long.MAX_VALUE, Long.MIN_VALUE};
        for (long v : all) {
            Object x = made(some(3));
            call(x, "setLong", v);
            due("long " + v, x, BigInteger.valueOf(v));
        }
    }

    private static Constructor<?> maker(Class<?> c) throws Exception {
        Constructor<?> maker = c.getDeclaredConstructor();
        maker.setAccessible(true);
        return maker;
    }

    private static Object made(BigInteger v) throws Exception {
        Constructor<?> maker = num.getDeclaredConstructor(boolean.class);
        maker.setAccessible(true);
        Object x = maker.newInstance(true);
        int[] limb = (int[]) field(x, "limb").get(x);
        java.util.Arrays.fill(limb, 0x55555555);
        BigInteger left = v.abs();
        int len = 0;
        while (left.signum() != 0) {
            limb[len++] = left.intValue() & 0x7fffffff;
            left = left.shiftRight(31);
        }
        field(x, "len").set(x, len);
        field(x, "sgn").set(x, v.signum());
        return x;
    }

    private static BigInteger read(Object x) throws Exception {
        int[] limb = (int[]) field(x, "limb").get(x);
        int len = (int) field(x, "len").get(x);
        BigInteger all = BigInteger.ZERO;
        for (int k = len - 1; k >= 0; k--) {
            all = all.shiftLeft(31).add(BigInteger.valueOf(limb[k]));
        }
        return (int) field(x, "sgn").get(x) < 0 ? all.negate() : all;
    }

    private static void due(String what, Object x, BigInteger want) throws Exception {
        CHECK.dueText(what, read(x).toString(), want.toString());
        CHECK.due("sign of " + what, (int) field(x, "sgn").get(x), want.signum());
        int len = (int) field(x, "len").get(x);
        CHECK.due("limbs of " + what, len, (want.abs().bitLength() + 30) / 31);
    }

    private static Field field(Object x, String name) throws Exception {
        Field f = x.getClass().getDeclaredField(name);
        f.setAccessible(true);
        return f;
    }

    private static Object call(Object x, String name, Object... args) throws Exception {
        for (Method m : x.getClass().getDeclaredMethods()) {
            if (m.getName().equals(name)) {
                m.setAccessible(true);
                return m.invoke(x, args);
            }
        }
        throw new IllegalStateException("no method " + name);
    }
}
