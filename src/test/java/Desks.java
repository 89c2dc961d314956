import java.util.NoSuchElementException;

/** Makes desks for the tests and reads them through the public face alone. */
final class Desks {
    static final int LOW = Integer.MIN_VALUE;
    static final int HIGH = Integer.MAX_VALUE;
    static final int[] NONE = {};

    private static final int MOST_BYTES = 1000;

    private Desks() {
    }

    /** Coefficients, lowest first. */
    static int[] p(int... c) {
        return c;
    }

    /** A desk with these coefficients of polynomial 0, and polynomial 1 none. */
    static SturmDesk one(int... zero) {
        return both(zero, NONE);
    }

    static SturmDesk both(int[] zero, int[] one) {
        SturmDesk x = new SturmDesk();
        set(x, 0, zero);
        set(x, 1, one);
        return x;
    }

    /** Puts these coefficients, and 0 for all above them. */
    static void set(SturmDesk x, int polynomial, int... c) {
        for (int k = 0; k < 9; k++) {
            x.put(polynomial, k, k < c.length ? c[k] : 0);
        }
    }

    /** v times x to the k. */
    static int[] single(int k, int v) {
        int[] c = new int[9];
        c[k] = v;
        return c;
    }

    /** The product of x less each of the roots. */
    static int[] withRoots(int... roots) {
        int[] all = {1};
        for (int r : roots) {
            all = product(all, p(-r, 1));
        }
        return all;
    }

    static int[] power(int[] a, int n) {
        int[] all = {1};
        for (int t = 0; t < n; t++) {
            all = product(all, a);
        }
        return all;
    }

    /** The product, which must fit the polynomials of a desk. */
    static int[] product(int[] a, int[] b) {
        long[] wide = new long[a.length + b.length - 1];
        for (int i = 0; i < a.length; i++) {
            for (int j = 0; j < b.length; j++) {
                wide[i + j] += (long) a[i] * b[j];
            }
        }
        int[] c = new int[wide.length];
        for (int k = 0; k < c.length; k++) {
            c[k] = Math.toIntExact(wide[k]);
        }
        if (c.length > 9) {
            throw new IllegalArgumentException("the test's polynomial is too long");
        }
        return c;
    }

    /** The whole of OUT; reads eight bytes a call, as an object has no more than 512 calls. */
    static String out(SturmDesk x) {
        StringBuilder all = new StringBuilder();
        for (int k = 0; k < MOST_BYTES; k += 8) {
            long eight = eightOr(x, k, 0);
            for (int t = 0; t < 8; t++) {
                int now = (int) (eight >>> (8 * t)) & 255;
                if (now == 0) {
                    return eightOr(x, k + t, -1) == -1 ? all.toString() : all + " (a byte behind the end)";
                }
                all.append((char) now);
            }
        }
        return all + " (no end)";
    }

    private static long eightOr(SturmDesk x, int k, long instead) {
        try {
            return x.out(k);
        } catch (NoSuchElementException e) {
            return instead;
        }
    }

    /** OUT after a floor, or what is wrong with the count of bytes that it answered. */
    static String floor(SturmDesk x, int polynomial, int i, boolean ten, int n) {
        int length = x.floor(polynomial, i, ten, n);
        String text = out(x);
        return text.length() == length ? text : text + " (answered " + length + " bytes)";
    }

    /** Eight characters from k on as out tells them: lowest first, 0 behind the end. */
    static long eight(String text, int k) {
        long all = 0;
        for (int t = 0; t < 8 && k + t < text.length(); t++) {
            all |= (long) text.charAt(k + t) << (8 * t);
        }
        return all;
    }

    /** Whether coefficient k is v (not the lowest int); takes all others of the polynomial away. */
    static boolean isCoefficient(SturmDesk x, int polynomial, int k, int v) {
        for (int t = 0; t < 9; t++) {
            if (t != k) {
                x.put(polynomial, t, 0);
            }
        }
        if (v == 0) {
            return x.degree(polynomial) == -1;
        }
        // At 1 the value is what the coefficient has over v.
        x.put(polynomial, k == 0 ? 1 : 0, -v);
        return x.degree(polynomial) >= 0 && x.sign(polynomial, 1, 0) == 0;
    }
}
