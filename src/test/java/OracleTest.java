import java.math.BigInteger;
import java.util.NoSuchElementException;
import java.util.Random;

/** Runs of calls on many kinds of polynomials, each answer compared with the oracle's. */
public final class OracleTest {
    private static final int KINDS = 13;
    private static final int MOST_CALLS = 512;
    private static final Check CHECK = new Check();

    private static Random random;
    private static SturmDesk x;
    private static int calls;
    private static final int[][] C = new int[2][9];
    private static final Oracle[] ORACLE = new Oracle[2];

    public static void main(String[] args) {
        int runs = args.length > 0 ? Integer.parseInt(args[0]) : 300;
        long seed = args.length > 1 ? Long.parseLong(args[1]) : 1;
        for (int run = 0; run < runs && !CHECK.failed(); run++) {
            random = new Random(seed * 1000003 + run);
            x = new SturmDesk();
            calls = 0;
            // Several polynomials one after another on one desk: nothing may stay from earlier ones.
            for (int turn = 0; turn < 3 && !CHECK.failed(); turn++) {
                choose(run + turn);
                compareAll();
            }
            if (CHECK.failed()) {
                System.out.println("in run " + run + ", polynomials " + java.util.Arrays.deepToString(C));
            }
        }
        CHECK.end("OracleTest");
    }

    private static void choose(int kind) {
        int[] zero = some(kind % KINDS);
        int[] one = random.nextInt(3) > 0 ? related(zero) : some(random.nextInt(KINDS));
        if (kind % KINDS == KINDS - 1) {
            one = small(1);
            zero = builtUpon(one);
        }
        boolean swap = random.nextBoolean();
        load(swap ? 1 : 0, zero);
        load(swap ? 0 : 1, one);
    }

    private static void load(int polynomial, int[] c) {
        spend(9);
        BigInteger[] big = new BigInteger[9];
        for (int k = 0; k < 9; k++) {
            x.put(polynomial, k, c[k]);
            C[polynomial][k] = c[k];
            big[k] = BigInteger.valueOf(c[k]);
        }
        ORACLE[polynomial] = new Oracle(big);
    }

    /** A new desk with the same polynomials when the next calls would be too many for this one. */
    private static void spend(int next) {
        calls += next;
        if (calls > MOST_CALLS) {
            x = new SturmDesk();
            for (int k = 0; k < 9; k++) {
                x.put(0, k, C[0][k]);
                x.put(1, k, C[1][k]);
            }
            calls = 18 + next;
        }
    }

    private static int[] some(int kind) {
        switch (kind) {
            case 0: return anyUpTo(8, 3);
            case 1: return anyUpTo(8, 20);
            case 2: return anyUpTo(8, 32);
            case 3: return productOf(1 + random.nextInt(7), 5, 1);
            case 4: return productOf(1 + random.nextInt(4), 9, 2);
            case 5: return close(3 + random.nextInt(6));
            case 6: return ends();
            case 7: return oneRoot();
            case 8: return closest();
            case 9: return gapped();
            case 10: return dyadic();
            default: return powers();
        }
    }

    private static int any(int bits) {
        return bits >= 32 ? random.nextInt() : random.nextInt(1 << bits) - (1 << (bits - 1));
    }

    private static int[] anyUpTo(int most, int bits) {
        int[] c = new int[9];
        int d = random.nextInt(most + 1);
        for (int k = 0; k <= d; k++) {
            c[k] = random.nextInt(4) == 0 ? 0 : any(bits);
        }
        return c;
    }

    /** A product of factors of low degree, some of them more than once, as long as it fits. */
    private static int[] productOf(int factors, int bits, int most) {
        int[] all = {1, 0, 0, 0, 0, 0, 0, 0, 0};
        int[] factor = null;
        for (int f = 0; f < factors; f++) {
            if (factor == null || random.nextInt(3) > 0) {
                factor = new int[9];
                for (int k = 0; k <= 1 + random.nextInt(most); k++) {
                    factor[k] = any(bits);
                }
            }
            int[] next = times(all, factor);
            all = next == null ? all : next;
        }
        return all;
    }

    private static int[] times(int[] a, int[] b) {
        long[] all = new long[17];
        for (int i = 0; i < 9; i++) {
            for (int j = 0; j < 9; j++) {
                all[i + j] += (long) a[i] * b[j];
            }
        }
        int[] c = new int[9];
        boolean some = false;
        for (int k = 0; k < 17; k++) {
            if (all[k] != (int) all[k] || (k > 8 && all[k] != 0)) {
                return null;
            }
            some = some || all[k] != 0;
            if (k < 9) {
                c[k] = (int) all[k];
            }
        }
        return some ? c : null;
    }

    /** Two roots very near to one another (Mignotte), near 1 / a or, turned round, near a. */
    private static int[] close(int d) {
        int a = 2 + random.nextInt(random.nextBoolean() ? 40 : 32760);
        int[] c = new int[9];
        c[0] = -2;
        c[1] = 4 * a;
        c[2] = -2 * a * a;
        c[d] += random.nextBoolean() ? 1 : -1;
        if (random.nextBoolean()) {
            for (int k = 0; k < d - k; k++) {
                int swap = c[k];
                c[k] = c[d - k];
                c[d - k] = swap;
            }
        }
        return c;
    }

    /** Two roots as near as degree 8 is known to bring them: (x^4 - ax + 1)^2 - 2 x^6 (ax - 1)^2. */
    private static int[] closest() {
        int a = 2 + random.nextInt(random.nextBoolean() ? 40 : 32760);
        int[] c = {1, -2 * a, a * a, 0, 2, -2 * a, -2, 4 * a, 1 - 2 * a * a};
        if (random.nextBoolean()) {
            for (int k = 0; k < 4; k++) {
                int swap = c[k];
                c[k] = c[8 - k];
                c[8 - k] = swap;
            }
        }
        return c;
    }

    /** Coefficients that are 0 below the highest, and 1 or -1 a double root: chains that skip degrees. */
    private static int[] gapped() {
        int at = random.nextBoolean() ? 1 : -1;
        int bits = random.nextBoolean() ? 4 : 26;
        int[] c = new int[9];
        int d = 3 + random.nextInt(6);
        c[d] = any(bits);
        for (int k = 2 + random.nextInt(d - 2); k >= 2; k--) {
            c[k] = c[k] == 0 ? any(bits) : c[k];
        }
        int value = 0;
        int slope = 0;
        for (int k = 2; k < 9; k++) {
            int now = k % 2 == 0 ? 1 : at;
            value += c[k] * now;
            slope += c[k] * k * now * at;
        }
        c[1] = -slope;
        c[0] = slope * at - value;
        return c;
    }

    /** A few roots that are dyadic, some of them more than once. */
    private static int[] dyadic() {
        int[] all = {1, 0, 0, 0, 0, 0, 0, 0, 0};
        for (int t = 1 + random.nextInt(4); t > 0; t--) {
            int[] factor = new int[9];
            factor[0] = any(6);
            factor[1] = 1 << random.nextInt(7);
            for (int again = random.nextInt(2); again >= 0; again--) {
                int[] next = times(all, factor);
                all = next == null ? all : next;
            }
        }
        return all;
    }

    /** Coefficients of at most the degree, small ones; never all 0. */
    private static int[] small(int most) {
        int[] c = new int[9];
        for (int k = 0; k < most; k++) {
            c[k] = random.nextInt(7) - 3;
        }
        c[most] = 1 + random.nextInt(5);
        return c;
    }

    /**
     * Divisions with a rest, backwards, from a common factor: the given one becomes the lower of the
     * last two. Quotients of a degree above 1 make chains that skip degrees in their middle.
     */
    private static int[] builtUpon(int[] one) {
        int[] low = one.clone();
        int[] high = times(low, small(random.nextInt(2)));
        for (int t = 0; t < 8; t++) {
            int[] next = times(high, small(1 + random.nextInt(3)));
            if (next == null) {
                continue;
            }
            for (int k = 0; k < 9; k++) {
                next[k] += low[k];
            }
            low = high;
            high = next;
        }
        System.arraycopy(low, 0, one, 0, 9);
        return high;
    }

    private static int[] ends() {
        int[] c = new int[9];
        int[] from = {Integer.MIN_VALUE, Integer.MAX_VALUE, Integer.MIN_VALUE + 1, 0, 1, -1};
        for (int k = random.nextInt(9); k >= 0; k--) {
            c[k] = from[random.nextInt(from.length)];
        }
        return c;
    }

    private static int[] oneRoot() {
        int[] c = new int[9];
        int k = random.nextInt(8);
        c[k] = any(32);
        c[k + 1] = random.nextBoolean() ? any(32) : any(4);
        return c;
    }

    private static int[] powers() {
        int[] factor = new int[9];
        factor[0] = any(4);
        factor[1] = any(3);
        factor[2] = random.nextBoolean() ? 0 : any(2);
        int[] all = factor;
        for (int t = random.nextInt(8); t > 0; t--) {
            int[] next = times(all, factor);
            all = next == null ? all : next;
        }
        return all;
    }

    /** Something that is likely to share roots with the given one, or to have some very near. */
    private static int[] related(int[] c) {
        int[] all = c.clone();
        switch (random.nextInt(5)) {
            case 0:
                int[] more = times(c, productOf(1 + random.nextInt(2), 4, 1));
                return more == null ? all : more;
            case 1:
                java.util.Arrays.fill(all, 0);
                for (int k = 1; k < 9; k++) {
                    long v = (long) k * c[k];
                    all[k - 1] = v == (int) v ? (int) v : c[k];
                }
                return all;
            case 2:
                all[random.nextInt(9)] += random.nextBoolean() ? 1 : -1;
                return all;
            case 3:
                for (int k = 1; k < 9; k += 2) {
                    all[k] = -all[k];
                }
                return all;
            default:
                return all;
        }
    }

    private static void compareAll() {
        spend(2);
        for (int p = 0; p < 2; p++) {
            Oracle o = ORACLE[p];
            CHECK.due("degree(" + p + ")", x.degree(p), o.degree());
            if (o.degree() >= 0) {
                compareOne(p, o);
            }
        }
        if (ORACLE[0].degree() >= 0 && ORACLE[1].degree() >= 0) {
            compareBoth();
        }
    }

    private static void compareOne(int p, Oracle o) {
        spend(10);
        CHECK.due("roots(" + p + ")", x.roots(p), o.roots());
        CHECK.due("repeated(" + p + ")", x.repeated(p), o.repeated());
        for (int t = 0; t < 3; t++) {
            long a = point();
            int e = random.nextInt(63);
            long b = point();
            int f = random.nextBoolean() ? e : random.nextInt(63);
            CHECK.due("sign(" + p + ", " + a + ", " + e + ")", x.sign(p, a, e), o.sign(a, e));
            CHECK.due("between(" + p + ", " + a + ", " + e + ", " + b + ", " + f + ")",
                    x.between(p, a, e, b, f), o.between(a, e, b, f));
        }
        boolean apartFirst = random.nextBoolean();
        if (apartFirst) {
            CHECK.due("apart(" + p + ")", x.apart(p), o.apart());
        }
        for (int i = 0; i < o.roots(); i++) {
            compareRoot(p, i, o);
        }
        if (!apartFirst) {
            CHECK.due("apart(" + p + ")", x.apart(p), o.apart());
        }
        CHECK.dueThrow("side of no root", NoSuchElementException.class, () -> x.side(p, o.roots(), 0, 0));
    }

    private static long point() {
        long[] from = {0, 1, -1, Long.MIN_VALUE, Long.MAX_VALUE};
        if (random.nextInt(4) == 0) {
            return from[random.nextInt(from.length)];
        }
        return random.nextLong() >> random.nextInt(64);
    }

    private static void compareRoot(int p, int i, Oracle o) {
        int few = random.nextInt(10);
        // Seven answers, a few floors, and five floors with the bytes of at most 101 each.
        spend(7 + few + 5 * 14);
        CHECK.due("multiple(" + p + ", " + i + ")", x.multiple(p, i), o.multiple(i));
        int e = random.nextInt(63);
        BigInteger near = o.floor(i, false, e);
        if (near.bitLength() < 62) {
            for (long a = near.longValue() - 1; a <= near.longValue() + 1; a++) {
                CHECK.due("side(" + p + ", " + i + ", " + a + ", " + e + ")", x.side(p, i, a, e), o.side(i, a, e));
                CHECK.due("sign(" + p + ", " + a + ", " + e + ")", x.sign(p, a, e), o.sign(a, e));
            }
        }
        // Step by step, too, as a root may be met exactly on the way.
        for (int n = 0; n < few; n++) {
            x.floor(p, i, false, n);
        }
        compareFloor(p, i, true, random.nextInt(91), o);
        compareFloor(p, i, false, random.nextInt(301), o);
        if (random.nextInt(4) == 0) {
            compareFloor(p, i, true, 90, o);
            compareFloor(p, i, false, 300, o);
        }
        compareFloor(p, i, true, random.nextInt(3), o);
    }

    private static void compareFloor(int p, int i, boolean ten, int n, Oracle o) {
        String want = o.floor(i, ten, n).toString();
        String call = "floor(" + p + ", " + i + ", " + ten + ", " + n + ")";
        CHECK.due(call, x.floor(p, i, ten, n), want.length());
        StringBuilder got = new StringBuilder();
        for (int k = 0; k < want.length(); k += 8) {
            long eight = x.out(k);
            for (int t = 0; t < 8 && k + t < want.length(); t++) {
                got.append((char) ((eight >>> (8 * t)) & 255));
            }
        }
        CHECK.dueText(call, got.toString(), want);
    }

    private static void compareBoth() {
        spend(1 + 16 + 64);
        CHECK.due("common()", x.common(), Oracle.common(ORACLE[0], ORACLE[1]));
        for (int p = 0; p < 2; p++) {
            for (int i = 0; i < ORACLE[p].roots(); i++) {
                CHECK.due("signAt(" + p + ", " + i + ")", x.signAt(p, i), ORACLE[p].signAt(ORACLE[1 - p], i));
            }
        }
        for (int i = 0; i < ORACLE[0].roots(); i++) {
            for (int j = 0; j < ORACLE[1].roots(); j++) {
                CHECK.due("order(" + i + ", " + j + ")", x.order(i, j), Oracle.order(ORACLE[0], i, ORACLE[1], j));
            }
        }
    }
}
