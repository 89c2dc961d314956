import java.util.Random;

/** A call of the face drawn by chance, its arguments mostly right ones: it can be made on any desk. */
final class AnyCall {
    static final int PUT = 0;
    static final int FLOOR = 8;
    static final int OUT = 13;

    private static final String[] NAMES = {
        "put", "degree", "roots", "repeated", "sign", "between", "multiple", "side", "floor", "apart", "order",
        "signAt", "common", "out",
    };

    final int name;
    final int polynomial;
    /** A coefficient's, a root's or a byte's number. */
    final int number;
    final int other;
    final int value;
    final long a;
    final int e;
    final long b;
    final int f;
    final boolean ten;
    final int n;

    AnyCall(Random random) {
        // Some more puts than of each other call, so that few answers are of the same polynomials.
        name = random.nextInt(5) == 0 ? PUT : random.nextInt(NAMES.length);
        polynomial = mostly(random, 2);
        number = name == OUT ? mostly(random, 60) : mostly(random, name == PUT ? 9 : 4);
        other = mostly(random, 4);
        value = random.nextInt(8) == 0 ? random.nextInt() : random.nextInt(31) / 2 - 7;
        a = random.nextLong() >> random.nextInt(64);
        e = mostly(random, 63);
        b = random.nextLong() >> random.nextInt(64);
        f = mostly(random, 63);
        ten = random.nextBoolean();
        n = mostly(random, ten ? 91 : 301);
    }

    /** A number from 0 on below the limit, or now and then one beside the right ones. */
    private static int mostly(Random random, int limit) {
        switch (random.nextInt(40)) {
            case 0: return -1;
            case 1: return limit;
            case 2: return random.nextInt();
            default: return random.nextInt(limit);
        }
    }

    /** What the call answers, or the name of the exception that it throws. */
    String on(SturmDesk x) {
        try {
            return Long.toString(made(x));
        } catch (RuntimeException thrown) {
            return thrown.getClass().getName();
        }
    }

    private long made(SturmDesk x) {
        switch (name) {
            case PUT: x.put(polynomial, number, value); return 0;
            case 1: return x.degree(polynomial);
            case 2: return x.roots(polynomial);
            case 3: return x.repeated(polynomial);
            case 4: return x.sign(polynomial, a, e);
            case 5: return x.between(polynomial, a, e, b, f);
            case 6: return x.multiple(polynomial, number);
            case 7: return x.side(polynomial, number, a, e);
            case FLOOR: return x.floor(polynomial, number, ten, n);
            case 9: return x.apart(polynomial);
            case 10: return x.order(number, other);
            case 11: return x.signAt(polynomial, number);
            case 12: return x.common();
            default: return x.out(number);
        }
    }

    @Override
    public String toString() {
        return NAMES[name] + " (polynomial " + polynomial + ", number " + number + ", other " + other + ", value "
                + value + ", point " + a + ", " + e + ", point " + b + ", " + f + ", ten " + ten + ", n " + n + ")";
    }
}
