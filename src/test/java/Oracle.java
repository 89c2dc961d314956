import java.math.BigInteger;
import java.util.ArrayList;
import java.util.List;

/**
 * Answers about the real roots of one polynomial, found another way than SturmDesk finds them:
 * Descartes' rule of signs on halved intervals, over BigInteger.
 */
final class Oracle {
    private static final BigInteger ZERO = BigInteger.ZERO;
    private static final BigInteger ONE = BigInteger.ONE;
    private static final int REACH = 40;

    /** A root: the point at / 2^level, or the only one strictly between it and the next point. */
    private static final class Place {
        BigInteger at;
        int level;
        boolean exact;

        Place(BigInteger at, int level, boolean exact) {
            this.at = at;
            this.level = level;
            this.exact = exact;
        }
    }

    final BigInteger[] p;
    private final BigInteger[] plain;
    private final List<Place> places = new ArrayList<>();

    Oracle(BigInteger[] p) {
        this.p = trimmed(p);
        plain = this.p.length < 2 ? this.p : quotient(this.p, gcd(this.p, derivative(this.p)));
        if (plain.length > 1) {
            isolate(ONE.negate(), -REACH);
            if (valueSign(plain, ZERO, ONE) == 0) {
                places.add(new Place(ZERO, 0, true));
            }
            isolate(ZERO, -REACH);
        }
    }

    int degree() {
        return p.length - 1;
    }

    int roots() {
        return places.size();
    }

    int repeated() {
        return p.length < 2 ? 0 : gcd(p, derivative(p)).length - 1;
    }

    int sign(long a, int e) {
        return valueSign(p, BigInteger.valueOf(a), ONE.shiftLeft(e));
    }

    int between(long a, int e, long b, int f) {
        int count = 0;
        for (int i = 0; i < roots(); i++) {
            if (side(i, a, e) > 0 && side(i, b, f) <= 0) {
                count++;
            }
        }
        return count;
    }

    int multiple(int i) {
        BigInteger[] now = p;
        for (int k = 0; k <= 8; k++) {
            if (!vanishes(now, i)) {
                return k;
            }
            now = derivative(now);
        }
        return -1;
    }

    int side(int i, long a, int e) {
        return compare(places.get(i), BigInteger.valueOf(a), ONE.shiftLeft(e));
    }

    BigInteger floor(int i, boolean ten, int n) {
        BigInteger unit = ten ? BigInteger.TEN.pow(n) : ONE.shiftLeft(n);
        Place r = places.get(i);
        while (!r.exact && r.level < unit.bitLength() + 4) {
            halve(r);
        }
        BigInteger m = r.at.multiply(unit);
        m = r.level >= 0 ? m.shiftRight(r.level) : m.shiftLeft(-r.level);
        while (compare(r, m.add(ONE), unit) >= 0) {
            m = m.add(ONE);
        }
        return m;
    }

    int apart() {
        for (int n = 0; n <= 400; n++) {
            boolean all = true;
            for (int i = 1; i < roots() && all; i++) {
                all = !floor(i, false, n).equals(floor(i - 1, false, n));
            }
            if (all) {
                return n;
            }
        }
        return -1;
    }

    int signAt(Oracle other, int i) {
        if (vanishes(other.p, i)) {
            return 0;
        }
        Place r = places.get(i);
        while (!r.exact && other.p.length > 1 && variations(other.p, r.at, r.level) != 0) {
            halve(r);
        }
        BigInteger over = r.exact ? r.at : r.at.shiftLeft(1).add(ONE);
        return valueSign(other.p, over, r.exact ? 0 : 1, r.level);
    }

    static int order(Oracle zero, int i, Oracle one, int j) {
        Oracle both = new Oracle(product(zero.plain, one.plain));
        int mine = -1;
        int theirs = -1;
        int seenZero = 0;
        int seenOne = 0;
        for (int k = 0; k < both.roots(); k++) {
            if (both.vanishes(zero.p, k) && seenZero++ == i) {
                mine = k;
            }
            if (both.vanishes(one.p, k) && seenOne++ == j) {
                theirs = k;
            }
        }
        return Integer.compare(mine, theirs);
    }

    static int common(Oracle zero, Oracle one) {
        int count = 0;
        for (int i = 0; i < zero.roots(); i++) {
            if (zero.vanishes(one.p, i)) {
                count++;
            }
        }
        return count;
    }

    private boolean vanishes(BigInteger[] other, int i) {
        Place r = places.get(i);
        if (other.length == 0) {
            return true;
        }
        if (r.exact) {
            return valueSign(other, r.at, 0, r.level) == 0;
        }
        // A divisor of the plain polynomial has this root or none here, and the rule keeps the parity.
        BigInteger[] shared = gcd(plain, other);
        return shared.length > 1 && variations(shared, r.at, r.level) % 2 == 1;
    }

    private void isolate(BigInteger at, int level) {
        int found = variations(plain, at, level);
        if (found == 1) {
            places.add(new Place(at, level, false));
        }
        if (found > 1) {
            BigInteger twice = at.shiftLeft(1);
            isolate(twice, level + 1);
            if (valueSign(plain, twice.add(ONE), 0, level + 1) == 0) {
                places.add(new Place(twice.add(ONE), level + 1, true));
            }
            isolate(twice.add(ONE), level + 1);
        }
    }

    private void halve(Place r) {
        BigInteger middle = r.at.shiftLeft(1).add(ONE);
        int now = valueSign(plain, middle, 0, r.level + 1);
        r.at = now == 0 || now == signBehind(r) ? middle : r.at.shiftLeft(1);
        r.level++;
        r.exact = now == 0;
    }

    private int signBehind(Place r) {
        int now = valueSign(plain, r.at, 0, r.level);
        return now != 0 ? now : valueSign(derivative(plain), r.at, 0, r.level);
    }

    private int compare(Place r, BigInteger over, BigInteger under) {
        BigInteger low = scaled(r.at, under, r.level);
        BigInteger point = r.level >= 0 ? over.shiftLeft(r.level) : over;
        if (r.exact) {
            return low.compareTo(point);
        }
        if (low.compareTo(point) >= 0) {
            return 1;
        }
        if (scaled(r.at.add(ONE), under, r.level).compareTo(point) <= 0) {
            return -1;
        }
        int now = valueSign(plain, over, under);
        return now == 0 ? 0 : now == signBehind(r) ? 1 : -1;
    }

    private static BigInteger scaled(BigInteger at, BigInteger under, int level) {
        BigInteger all = at.multiply(under);
        return level >= 0 ? all : all.shiftLeft(-level);
    }

    private static int valueSign(BigInteger[] c, BigInteger over, int down, int level) {
        int exp = level + down;
        return exp >= 0 ? valueSign(c, over, ONE.shiftLeft(exp)) : valueSign(c, over.shiftLeft(-exp), ONE);
    }

    private static int valueSign(BigInteger[] c, BigInteger over, BigInteger under) {
        BigInteger sum = ZERO;
        for (int k = 0; k < c.length; k++) {
            sum = sum.add(c[k].multiply(over.pow(k)).multiply(under.pow(c.length - 1 - k)));
        }
        return sum.signum();
    }

    /** Changes of sign that bound the roots strictly between at / 2^level and the next such point. */
    private static int variations(BigInteger[] c, BigInteger at, int level) {
        int d = c.length - 1;
        BigInteger[] w = new BigInteger[d + 1];
        for (int k = 0; k <= d; k++) {
            w[k] = level >= 0 ? c[k].shiftLeft(level * (d - k)) : c[k].shiftLeft(-level * k);
        }
        shift(w, at);
        BigInteger[] turned = new BigInteger[d + 1];
        for (int k = 0; k <= d; k++) {
            turned[k] = w[d - k];
        }
        shift(turned, ONE);
        int changes = 0;
        int before = 0;
        for (BigInteger t : turned) {
            if (t.signum() != 0) {
                changes += before == -t.signum() ? 1 : 0;
                before = t.signum();
            }
        }
        return changes;
    }

    private static void shift(BigInteger[] c, BigInteger by) {
        for (int i = 0; i < c.length - 1; i++) {
            for (int k = c.length - 2; k >= i; k--) {
                c[k] = c[k].add(c[k + 1].multiply(by));
            }
        }
    }

    static BigInteger[] trimmed(BigInteger[] c) {
        int n = c.length;
        while (n > 0 && c[n - 1].signum() == 0) {
            n--;
        }
        return java.util.Arrays.copyOf(c, n);
    }

    static BigInteger[] product(BigInteger[] a, BigInteger[] b) {
        BigInteger[] c = new BigInteger[a.length + b.length - 1];
        java.util.Arrays.fill(c, ZERO);
        for (int i = 0; i < a.length; i++) {
            for (int j = 0; j < b.length; j++) {
                c[i + j] = c[i + j].add(a[i].multiply(b[j]));
            }
        }
        return c;
    }

    private static BigInteger[] derivative(BigInteger[] c) {
        BigInteger[] d = new BigInteger[Math.max(0, c.length - 1)];
        for (int k = 1; k < c.length; k++) {
            d[k - 1] = c[k].multiply(BigInteger.valueOf(k));
        }
        return d;
    }

    private static BigInteger[] primitive(BigInteger[] c) {
        BigInteger content = ZERO;
        for (BigInteger x : c) {
            content = content.gcd(x);
        }
        BigInteger[] all = new BigInteger[c.length];
        for (int k = 0; k < c.length; k++) {
            all[k] = c[k].divide(content);
        }
        return all;
    }

    private static BigInteger[] gcd(BigInteger[] a, BigInteger[] b) {
        BigInteger[] u = primitive(a);
        BigInteger[] v = primitive(b);
        while (v.length > 0) {
            BigInteger[] r = u.clone();
            while (r.length >= v.length) {
                BigInteger top = r[r.length - 1];
                BigInteger lead = v[v.length - 1];
                int gap = r.length - v.length;
                for (int k = 0; k < r.length; k++) {
                    r[k] = r[k].multiply(lead);
                    if (k >= gap) {
                        r[k] = r[k].subtract(top.multiply(v[k - gap]));
                    }
                }
                r = trimmed(r);
            }
            u = v;
            v = r.length == 0 ? r : primitive(r);
        }
        return u;
    }

    /** a over b, which divides it and is primitive. */
    private static BigInteger[] quotient(BigInteger[] a, BigInteger[] b) {
        BigInteger[] r = a.clone();
        BigInteger[] q = new BigInteger[a.length - b.length + 1];
        for (int k = q.length - 1; k >= 0; k--) {
            q[k] = r[k + b.length - 1].divide(b[b.length - 1]);
            for (int t = 0; t < b.length; t++) {
                r[k + t] = r[k + t].subtract(q[k].multiply(b[t]));
            }
        }
        return q;
    }
}
