import java.util.Arrays;
import java.util.NoSuchElementException;

/**
 * Real roots of two polynomials with whole coefficients, exactly.
 *
 * Every root is a dyadic cell that holds it and no other root; signs at a root come from
 * variations of signed remainder chains, so no answer rests on an approximation.
 */
public final class SturmDesk {
    private static final int POLYNOMIALS = 2;
    private static final int COEFFICIENTS = 9;
    private static final int MOST_EXPONENT = 62;
    private static final int MOST_TEN = 90;
    private static final int MOST_TWO = 300;

    private final Held[] desk;
    private final Bench bench;
    private final Query query;
    private final Text text;

    public SturmDesk() {
        desk = new Held[POLYNOMIALS];
        for (int p = 0; p < POLYNOMIALS; p++) {
            desk[p] = new Held();
        }
        bench = new Bench();
        query = new Query();
        text = new Text();
    }

    public void put(int polynomial, int k, int v) throws IllegalArgumentException {
        checkPolynomial(polynomial);
        if (k < 0 || k >= COEFFICIENTS) {
            throw new IllegalArgumentException("no such coefficient");
        }
        desk[polynomial].change(k, v);
    }

    public int degree(int polynomial) throws IllegalArgumentException {
        checkPolynomial(polynomial);
        return desk[polynomial].source.deg;
    }

    public int roots(int polynomial) throws IllegalArgumentException, IllegalStateException {
        checkPolynomial(polynomial);
        Held held = some(polynomial);
        held.prepare(bench);
        return held.count;
    }

    public int repeated(int polynomial) throws IllegalArgumentException, IllegalStateException {
        checkPolynomial(polynomial);
        Held held = some(polynomial);
        held.prepare(bench);
        return held.shared;
    }

    public int sign(int polynomial, long a, int e) throws IllegalArgumentException, IllegalStateException {
        checkPolynomial(polynomial);
        checkExponent(e);
        Held held = some(polynomial);
        bench.point.placeLong(a, e);
        return bench.valueAt(held.source, bench.point).sgn;
    }

    public int between(int polynomial, long a, int e, long b, int f)
            throws IllegalArgumentException, IllegalStateException {
        checkPolynomial(polynomial);
        checkExponent(e);
        checkExponent(f);
        Held held = some(polynomial);
        held.prepare(bench);
        bench.point.placeLong(a, e);
        int first = held.countUpTo(bench.point, bench);
        bench.point.placeLong(b, f);
        int second = held.countUpTo(bench.point, bench);
        // The count never falls, so a second point below the first cannot come out above 0.
        return Math.max(0, second - first);
    }

    public int multiple(int polynomial, int i)
            throws IllegalArgumentException, IllegalStateException, NoSuchElementException {
        checkPolynomial(polynomial);
        Held held = some(polynomial);
        held.prepare(bench);
        checkRoot(held, i);
        if (held.shared == 0) {
            return 1;
        }
        held.isolate(i, bench);
        return query.multiplicity(held, held.root[i], bench);
    }

    public int side(int polynomial, int i, long a, int e)
            throws IllegalArgumentException, IllegalStateException, NoSuchElementException {
        checkPolynomial(polynomial);
        checkExponent(e);
        Held held = some(polynomial);
        held.prepare(bench);
        checkRoot(held, i);
        bench.point.placeLong(a, e);
        return held.sideOf(i, bench.point, bench);
    }

    public int floor(int polynomial, int i, boolean ten, int n)
            throws IllegalArgumentException, IllegalStateException, NoSuchElementException {
        checkPolynomial(polynomial);
        if (n < 0 || n > (ten ? MOST_TEN : MOST_TWO)) {
            throw new IllegalArgumentException("no such count of digits");
        }
        Held held = some(polynomial);
        held.prepare(bench);
        checkRoot(held, i);
        held.isolate(i, bench);
        // For tens so narrow that at most one whole number of 10 to the n-ths lies in the cell.
        held.refine(i, ten ? n * 10 / 3 + 8 : n, bench);
        Num whole = ten ? held.floorTen(i, n, bench) : held.floorTwo(i, n, bench);
        return text.write(whole);
    }

    public int apart(int polynomial) throws IllegalArgumentException, IllegalStateException {
        checkPolynomial(polynomial);
        Held held = some(polynomial);
        held.prepare(bench);
        int most = 0;
        for (int i = 0; i < held.count; i++) {
            held.isolate(i, bench);
            if (i > 0) {
                most = Math.max(most, held.firstLevelApart(i - 1, bench));
            }
        }
        return most;
    }

    public int order(int i, int j) throws IllegalStateException, NoSuchElementException {
        Held zero = some(0);
        Held one = some(1);
        zero.prepare(bench);
        one.prepare(bench);
        checkRoot(zero, i);
        checkRoot(one, j);
        zero.isolate(i, bench);
        one.isolate(j, bench);
        return query.compare(zero, i, one, j, bench);
    }

    public int signAt(int polynomial, int i)
            throws IllegalArgumentException, IllegalStateException, NoSuchElementException {
        checkPolynomial(polynomial);
        Held held = some(polynomial);
        Held other = some(1 - polynomial);
        held.prepare(bench);
        checkRoot(held, i);
        held.isolate(i, bench);
        return query.signOn(held, held.root[i], other.source, bench);
    }

    public int common() throws IllegalStateException {
        Held zero = some(0);
        Held one = some(1);
        zero.prepare(bench);
        one.prepare(bench);
        return query.countShared(zero, one, bench);
    }

    public long out(int k) throws NoSuchElementException {
        if (k < 0 || k >= text.length) {
            throw new NoSuchElementException("no such byte");
        }
        return text.eightFrom(k);
    }

    private void checkPolynomial(int polynomial) {
        if (polynomial < 0 || polynomial >= POLYNOMIALS) {
            throw new IllegalArgumentException("no such polynomial");
        }
    }

    private void checkExponent(int e) {
        if (e < 0 || e > MOST_EXPONENT) {
            throw new IllegalArgumentException("no such point");
        }
    }

    /** The polynomial, which must not be none. */
    private Held some(int polynomial) {
        Held held = desk[polynomial];
        if (held.source.deg < 0) {
            throw new IllegalStateException("the polynomial is none");
        }
        return held;
    }

    private void checkRoot(Held held, int i) {
        if (i < 0 || i >= held.count) {
            throw new NoSuchElementException("no such root");
        }
    }

    /**
     * A whole number: sign and magnitude, lowest limb first. A limb has 31 bits, so that a product
     * of two with two carries stays inside a long.
     *
     * The capacities stand above what degree 8 and int coefficients can reach (a pseudo remainder
     * of the widest chain has some 3,900 bits, a kept coefficient some 1,150); what would not fit
     * becomes 0 instead of running over the end.
     */
    private static final class Num {
        static final int BITS = 31;
        static final int MASK = 0x7fffffff;
        static final int WIDE = 160;
        static final int NARROW = 48;

        final int[] limb;
        int len;
        int sgn;

        Num(boolean wide) {
            limb = new int[wide ? WIDE : NARROW];
        }

        void clear() {
            len = 0;
            sgn = 0;
        }

        void copy(Num b) {
            len = b.len <= limb.length ? b.len : 0;
            sgn = len == 0 ? 0 : b.sgn;
            System.arraycopy(b.limb, 0, limb, 0, len);
        }

        void setLong(long v) {
            // The magnitude of the lowest long is right when read without a sign.
            long rest = v < 0 ? -v : v;
            len = 0;
            for (int k = 0; k < 3 && rest != 0; k++) {
                limb[k] = (int) (rest & MASK);
                rest = rest >>> BITS;
                len = k + 1;
            }
            sgn = Long.signum(v);
        }

        int bitLength() {
            return len == 0 ? 0 : len * BITS - (Integer.numberOfLeadingZeros(limb[len - 1]) - 1);
        }

        int compareMagnitude(Num b) {
            if (len != b.len) {
                return len < b.len ? -1 : 1;
            }
            for (int k = len - 1; k >= 0; k--) {
                if (limb[k] != b.limb[k]) {
                    return limb[k] < b.limb[k] ? -1 : 1;
                }
            }
            return 0;
        }

        boolean same(Num b) {
            return sgn == b.sgn && compareMagnitude(b) == 0;
        }

        /** Adds b times factor, which is 1 or -1. */
        void add(Num b, int factor) {
            int other = b.sgn * factor;
            if (other == 0) {
                return;
            }
            if (sgn == 0) {
                copy(b);
                sgn = len == 0 ? 0 : other;
            } else if (sgn == other) {
                addMagnitude(b);
            } else {
                int cmp = compareMagnitude(b);
                if (cmp == 0) {
                    clear();
                } else {
                    sgn = cmp > 0 ? sgn : other;
                    subtractMagnitude(b, cmp);
                }
            }
        }

        private void addMagnitude(Num b) {
            int most = Math.max(len, b.len);
            if (most >= limb.length) {
                clear();
                return;
            }
            int carry = 0;
            for (int k = 0; k < most; k++) {
                long sum = (long) carry + (k < len ? limb[k] : 0) + (k < b.len ? b.limb[k] : 0);
                limb[k] = (int) (sum & MASK);
                carry = (int) (sum >>> BITS);
            }
            len = most;
            if (carry != 0) {
                limb[len] = carry;
                len++;
            }
        }

        /** The larger magnitude less the smaller one; cmp above 0 when this one is the larger. */
        private void subtractMagnitude(Num b, int cmp) {
            int most = Math.max(len, b.len);
            if (most > limb.length) {
                clear();
                return;
            }
            int borrow = 0;
            for (int k = 0; k < most; k++) {
                int mine = k < len ? limb[k] : 0;
                int theirs = k < b.len ? b.limb[k] : 0;
                long gap = cmp > 0 ? (long) mine - theirs - borrow : (long) theirs - mine - borrow;
                borrow = gap < 0 ? 1 : 0;
                limb[k] = (int) (gap & MASK);
            }
            len = most;
            trim();
        }

        void trim() {
            while (len > 0 && limb[len - 1] == 0) {
                len--;
            }
            if (len == 0) {
                sgn = 0;
            }
        }

        /** Adds 1 or -1. */
        void step(int by) {
            if (sgn == 0) {
                setLong(by);
                return;
            }
            boolean up = sgn == by;
            boolean more = true;
            for (int k = 0; k < len && more; k++) {
                more = limb[k] == (up ? MASK : 0);
                limb[k] = (limb[k] + (up ? 1 : -1)) & MASK;
            }
            if (up && more && len < limb.length) {
                limb[len] = 1;
                len++;
            }
            trim();
        }

        /** Times 2 to the by, rounded down when by is below 0. */
        void move(int by) {
            boolean below = sgn < 0;
            if (by >= 0) {
                shiftUp(by);
            } else if (shiftDown(-by) && below) {
                step(-1);
            }
        }

        /** Times 2 to the by. */
        void shiftUp(int by) {
            if (len == 0 || by <= 0) {
                return;
            }
            int whole = by / BITS;
            int part = by % BITS;
            if (len + whole + 1 > limb.length) {
                clear();
                return;
            }
            limb[len + whole] = 0;
            for (int k = len - 1; k >= 0; k--) {
                long wide = (long) limb[k] << part;
                limb[k + whole + 1] = limb[k + whole + 1] | (int) (wide >>> BITS);
                limb[k + whole] = (int) (wide & MASK);
            }
            Arrays.fill(limb, 0, whole, 0);
            len = len + whole + 1;
            trim();
        }

        /** Over 2 to the by, rounded toward 0; answers whether something was cut off. */
        boolean shiftDown(int by) {
            if (len == 0 || by <= 0) {
                return false;
            }
            int whole = Math.min(by / BITS, len);
            int part = by % BITS;
            boolean lost = false;
            for (int k = 0; k < whole && !lost; k++) {
                lost = limb[k] != 0;
            }
            if (whole < len) {
                lost = lost || (limb[whole] & ((1 << part) - 1)) != 0;
            }
            for (int k = whole; k < len; k++) {
                long high = k + 1 < len ? limb[k + 1] : 0;
                long both = (high << BITS) | limb[k];
                limb[k - whole] = (int) ((both >>> part) & MASK);
            }
            len = len - whole;
            trim();
            return lost;
        }

        /** Becomes a times b; it is neither of both. */
        void setProduct(Num a, Num b) {
            if (a.len == 0 || b.len == 0 || a.len + b.len > limb.length) {
                clear();
                return;
            }
            len = a.len + b.len;
            Arrays.fill(limb, 0, len, 0);
            for (int i = 0; i < a.len; i++) {
                long factor = a.limb[i];
                long carry = 0;
                for (int j = 0; j < b.len; j++) {
                    long sum = factor * b.limb[j] + limb[i + j] + carry;
                    limb[i + j] = (int) (sum & MASK);
                    carry = sum >>> BITS;
                }
                limb[i + b.len] = (int) carry;
            }
            sgn = a.sgn * b.sgn;
            trim();
        }

        /** Times a whole number that is not below 0. */
        void times(int small) {
            if (len >= limb.length) {
                clear();
                return;
            }
            long carry = 0;
            for (int k = 0; k < len; k++) {
                long sum = (long) limb[k] * small + carry;
                limb[k] = (int) (sum & MASK);
                carry = sum >>> BITS;
            }
            limb[len] = (int) carry;
            len++;
            trim();
        }

        /** Divides the magnitude, rounding down, and answers what is left. */
        int divideSmall(int small) {
            if (small <= 0) {
                return 0;
            }
            long rest = 0;
            for (int k = len - 1; k >= 0; k--) {
                long now = (rest << BITS) | limb[k];
                limb[k] = (int) (now / small);
                rest = now % small;
            }
            trim();
            return (int) rest;
        }
    }

    /** Division with a rest, by Knuth's algorithm D, and the greatest common divisor. */
    private static final class Divider {
        static final int MOST_STEPS = 100000;

        final Num quotient;
        final Num rest;
        final Num moved;
        final Num spare;

        Divider() {
            quotient = new Num(true);
            rest = new Num(true);
            moved = new Num(true);
            spare = new Num(true);
        }

        /** The quotient is rounded toward 0; with a divisor 0 quotient and rest are 0. */
        void divide(Num a, Num b) {
            quotient.clear();
            if (b.len == 0) {
                rest.clear();
                return;
            }
            rest.copy(a);
            if (a.compareMagnitude(b) < 0) {
                return;
            }
            if (b.len == 1) {
                quotient.copy(a);
                int left = quotient.divideSmall(b.limb[0]);
                quotient.sgn = quotient.sgn * b.sgn;
                rest.setLong(a.sgn < 0 ? -(long) left : left);
                return;
            }
            int shift = Num.BITS * b.len - b.bitLength();
            moved.copy(b);
            moved.shiftUp(shift);
            rest.shiftUp(shift);
            if (moved.len < 2 || rest.len < moved.len || rest.len >= Num.WIDE) {
                return;
            }
            rest.limb[rest.len] = 0;
            int places = rest.len - moved.len;
            quotient.len = places + 1;
            for (int j = places; j >= 0; j--) {
                quotient.limb[j] = takeDigit(j);
            }
            quotient.sgn = a.sgn * b.sgn;
            quotient.trim();
            rest.len = moved.len;
            rest.trim();
            rest.shiftDown(shift);
        }

        private int takeDigit(int j) {
            int n = moved.len;
            long first = moved.limb[n - 1];
            long second = moved.limb[n - 2];
            if (first == 0) {
                return 0;
            }
            long two = ((long) rest.limb[j + n] << Num.BITS) | rest.limb[j + n - 1];
            long digit = two / first;
            long left = two % first;
            for (int t = 0; t < 3; t++) {
                boolean high = digit > Num.MASK || digit * second > ((left << Num.BITS) | rest.limb[j + n - 2]);
                if (!high || left > Num.MASK) {
                    break;
                }
                digit--;
                left += first;
            }
            if (subtractDigit(j, digit)) {
                addBack(j);
                digit--;
            }
            return (int) digit;
        }

        private boolean subtractDigit(int j, long digit) {
            int n = moved.len;
            long carry = 0;
            for (int k = 0; k < n; k++) {
                long product = digit * moved.limb[k] + carry;
                long gap = rest.limb[j + k] - (product & Num.MASK);
                carry = (product >>> Num.BITS) + (gap < 0 ? 1 : 0);
                rest.limb[j + k] = (int) (gap & Num.MASK);
            }
            long gap = rest.limb[j + n] - carry;
            rest.limb[j + n] = (int) (gap & Num.MASK);
            return gap < 0;
        }

        private void addBack(int j) {
            int n = moved.len;
            long carry = 0;
            for (int k = 0; k < n; k++) {
                long sum = (long) rest.limb[j + k] + moved.limb[k] + carry;
                rest.limb[j + k] = (int) (sum & Num.MASK);
                carry = sum >>> Num.BITS;
            }
            rest.limb[j + n] = (int) ((rest.limb[j + n] + carry) & Num.MASK);
        }

        /** a becomes the greatest common divisor of both, not below 0. */
        void reduceToCommon(Num a, Num b) {
            spare.copy(b);
            for (int t = 0; t < MOST_STEPS && spare.sgn != 0; t++) {
                divide(a, spare);
                a.copy(spare);
                spare.copy(rest);
            }
            a.sgn = Math.abs(a.sgn);
        }
    }

    /** A polynomial: its coefficients, and its degree (-1 for none). */
    private static final class Poly {
        final Num[] c;
        int deg;

        Poly(int size, boolean wide) {
            c = new Num[size];
            for (int k = 0; k < size; k++) {
                c[k] = new Num(wide);
            }
            deg = -1;
        }

        void copy(Poly b) {
            deg = Math.min(b.deg, c.length - 1);
            for (int k = 0; k <= deg; k++) {
                c[k].copy(b.c[k]);
            }
            lower(deg);
        }

        /** Sets the degree from the coefficients up to the given number. */
        void lower(int from) {
            deg = Math.min(from, c.length - 1);
            while (deg >= 0 && c[deg].sgn == 0) {
                deg--;
            }
        }

        void derive() {
            for (int k = 1; k <= deg; k++) {
                c[k - 1].copy(c[k]);
                c[k - 1].times(k);
            }
            lower(deg - 1);
        }

        int leadSign() {
            return deg < 0 ? 0 : c[deg].sgn;
        }
    }

    /** A number over a power of 2. */
    private static final class Point {
        final Num over;
        int exp;

        Point() {
            over = new Num(false);
        }

        void placeLong(long a, int e) {
            over.setLong(a);
            exp = e;
        }

        /** The point n / 2 to the level, where the level may be below 0. */
        void place(Num n, int level) {
            over.copy(n);
            exp = Math.max(0, level);
            if (level < 0) {
                over.shiftUp(-level);
            }
        }
    }

    /** The scratch numbers that all calculations share, and what is done with them. */
    private static final class Bench {
        final Num one;
        final Num two;
        final Num term;
        final Num power;
        final Num lower;
        final Num upper;
        final Num guess;
        final Num tens;
        final Num scale;
        final Num height;
        final Num share;
        final Num spare;
        final Point point;
        final Divider divider;
        final Poly rest;
        final Poly divisor;

        Bench() {
            one = new Num(true);
            two = new Num(true);
            term = new Num(true);
            power = new Num(true);
            lower = new Num(true);
            upper = new Num(true);
            guess = new Num(true);
            tens = new Num(true);
            scale = new Num(true);
            height = new Num(true);
            share = new Num(true);
            spare = new Num(true);
            point = new Point();
            divider = new Divider();
            rest = new Poly(Chain.HEAD, true);
            divisor = new Poly(COEFFICIENTS, false);
        }

        /** The value at the point times 2 to the (exp times degree). */
        Num valueAt(Poly p, Point x) {
            Num now = one;
            Num next = two;
            now.clear();
            for (int k = p.deg; k >= 0; k--) {
                next.setProduct(now, x.over);
                term.copy(p.c[k]);
                term.shiftUp(x.exp * (p.deg - k));
                next.add(term, 1);
                Num swap = now;
                now = next;
                next = swap;
            }
            return now;
        }

        /** The sign of the value at over / under, where under is above 0. */
        int signAtFraction(Poly p, Num over, Num under) {
            Num now = one;
            Num next = two;
            now.clear();
            power.setLong(1);
            for (int k = p.deg; k >= 0; k--) {
                next.setProduct(now, over);
                term.setProduct(p.c[k], power);
                next.add(term, 1);
                term.setProduct(power, under);
                power.copy(term);
                Num swap = now;
                now = next;
                next = swap;
            }
            return now.sgn;
        }

        /** The divisor becomes p over the greatest common divisor of its coefficients. */
        void setDivisor(Poly p) {
            divisor.copy(p);
            one.clear();
            for (int k = 0; k <= divisor.deg; k++) {
                divider.reduceToCommon(one, divisor.c[k]);
            }
            for (int k = 0; k <= divisor.deg; k++) {
                divider.divide(divisor.c[k], one);
                divisor.c[k].copy(divider.quotient);
            }
        }

        /** The quotient becomes p over the divisor, which divides it. */
        void divideByDivisor(Poly p, Poly quotient) {
            int gap = p.deg - divisor.deg;
            if (gap < 0 || gap >= quotient.c.length || divisor.deg < 0) {
                return;
            }
            rest.copy(p);
            for (int k = gap; k >= 0; k--) {
                divider.divide(rest.c[k + divisor.deg], divisor.c[divisor.deg]);
                quotient.c[k].copy(divider.quotient);
                for (int t = 0; t <= divisor.deg; t++) {
                    term.setProduct(quotient.c[k], divisor.c[t]);
                    rest.c[k + t].add(term, -1);
                }
            }
            quotient.lower(gap);
        }

        void setTens(int n) {
            tens.setLong(1);
            for (int k = 0; k < n; k++) {
                tens.times(10);
            }
        }
    }

    /**
     * A signed remainder chain: every link is a positive multiple of what is left of the two before
     * it, turned in sign. The positive factors are those of the subresultants, which keep the
     * coefficients as short as determinants of the first two links.
     */
    private static final class Chain {
        static final int LINKS = 10;
        static final int HEAD = 16;

        final Poly[] link;
        int length;
        int headSign;

        Chain(int head) {
            link = new Poly[LINKS];
            for (int k = 0; k < LINKS; k++) {
                // The second link has a degree of at most 8, and each one behind it a lower one.
                link[k] = new Poly(k == 0 ? head : LINKS - k, false);
            }
        }

        Poly last() {
            return link[Math.max(0, length - 1)];
        }

        /** The second link becomes the derivative of the first. */
        void deriveHead() {
            link[1].copy(link[0]);
            link[1].derive();
        }

        /** Makes the chain from its first two links, the second not of a higher degree. */
        void build(Bench bench) {
            length = link[1].deg < 0 ? 1 : 2;
            bench.scale.setLong(1);
            bench.height.setLong(1);
            while (length > 1 && length < LINKS && link[length - 1].deg > 0) {
                Poly u = link[length - 2];
                Poly v = link[length - 1];
                int gap = u.deg - v.deg;
                leaveRest(u, v, bench);
                if (gap < 0 || bench.rest.deg < 0) {
                    return;
                }
                keepRest(link[length], gap, bench);
                length++;
                bench.scale.copy(v.c[v.deg]);
                bench.scale.sgn = Math.abs(bench.scale.sgn);
                raiseHeight(gap, bench);
            }
        }

        /** The rest of u, times the magnitude of v's leading coefficient once for each place, by v. */
        private void leaveRest(Poly u, Poly v, Bench bench) {
            Poly rest = bench.rest;
            rest.copy(u);
            Num lead = v.c[v.deg];
            for (int gap = u.deg - v.deg; gap >= 0; gap--) {
                Num top = bench.lower;
                top.copy(rest.c[gap + v.deg]);
                for (int k = gap + v.deg; k >= 0; k--) {
                    bench.term.setProduct(rest.c[k], lead);
                    if (k >= gap) {
                        bench.upper.setProduct(top, v.c[k - gap]);
                        bench.term.add(bench.upper, -1);
                    }
                    rest.c[k].copy(bench.term);
                    rest.c[k].sgn = bench.term.sgn * lead.sgn;
                }
            }
            rest.lower(v.deg - 1);
        }

        /** The next link becomes the rest, turned, over scale times height to the gap. */
        private void keepRest(Poly next, int gap, Bench bench) {
            bench.share.copy(bench.scale);
            for (int k = 0; k < gap; k++) {
                bench.spare.setProduct(bench.share, bench.height);
                bench.share.copy(bench.spare);
            }
            for (int k = 0; k <= bench.rest.deg && k < next.c.length; k++) {
                bench.divider.divide(bench.rest.c[k], bench.share);
                next.c[k].copy(bench.divider.quotient);
                next.c[k].sgn = -next.c[k].sgn;
            }
            next.lower(bench.rest.deg);
        }

        /** height becomes scale to the gap over height to the (gap less 1). */
        private void raiseHeight(int gap, Bench bench) {
            if (gap == 0) {
                return;
            }
            bench.share.copy(bench.scale);
            for (int k = 1; k < gap; k++) {
                bench.spare.setProduct(bench.share, bench.scale);
                bench.divider.divide(bench.spare, bench.height);
                bench.share.copy(bench.divider.quotient);
            }
            bench.height.copy(bench.share);
        }

        /** How often the sign changes along the chain at the point; links that are 0 do not count. */
        int changesAt(Point x, Bench bench) {
            int changes = 0;
            int before = 0;
            for (int k = 0; k < length; k++) {
                int now = bench.valueAt(link[k], x).sgn;
                if (k == 0) {
                    headSign = now;
                }
                if (now != 0) {
                    changes += before == -now ? 1 : 0;
                    before = now;
                }
            }
            return changes;
        }

        /** The same behind the first link, with every second link turned. */
        int turnedChangesAt(Point x, Bench bench) {
            int changes = 0;
            int before = 0;
            int turn = 1;
            for (int k = 1; k < length; k++) {
                int now = bench.valueAt(link[k], x).sgn * turn;
                if (now != 0) {
                    changes += before == -now ? 1 : 0;
                    before = now;
                }
                turn = -turn;
            }
            return changes;
        }

        /** How often the sign changes along the chain far below 0 (way -1) or far above it (1). */
        int changesFar(int way) {
            int changes = 0;
            int before = 0;
            for (int k = 0; k < length; k++) {
                int now = link[k].leadSign();
                if (way < 0 && link[k].deg % 2 != 0) {
                    now = -now;
                }
                if (now != 0) {
                    changes += before == -now ? 1 : 0;
                    before = now;
                }
            }
            return changes;
        }

        int realRoots() {
            return changesFar(-1) - changesFar(1);
        }
    }

    /**
     * Where a root lies: from at / 2 to the level (may be the root: then exact) up to the next
     * such point (never the root). No other root lies there, the ends included.
     */
    private static final class Root {
        final Num at;
        int level;
        int lowSign;
        boolean found;
        boolean exact;

        Root() {
            at = new Num(false);
        }

        void toLow(Point x) {
            x.place(at, level);
        }

        void toHigh(Point x) {
            at.step(1);
            x.place(at, level);
            at.step(-1);
        }

        /** The upper half's low end. */
        void toMiddle(Point x) {
            at.shiftUp(1);
            at.step(1);
            x.place(at, level + 1);
            at.step(-1);
            at.shiftDown(1);
        }

        void halve(boolean upper) {
            at.shiftUp(1);
            if (upper) {
                at.step(1);
            }
            level++;
        }
    }

    /** A polynomial of the desk with what has been found out about its roots. */
    private static final class Held {
        static final int MOST_ROOTS = 8;
        static final int MOST_REACH = 32;
        static final int MOST_HALVINGS = 2000;

        final int[] given;
        final Poly source;
        final Chain chain;
        final Root[] root;
        boolean ready;
        int count;
        int shared;
        int start;
        int reach;

        Held() {
            given = new int[COEFFICIENTS];
            source = new Poly(COEFFICIENTS, false);
            chain = new Chain(COEFFICIENTS);
            root = new Root[MOST_ROOTS];
            for (int i = 0; i < MOST_ROOTS; i++) {
                root[i] = new Root();
            }
        }

        void change(int k, int v) {
            if (given[k] == v) {
                return;
            }
            given[k] = v;
            source.c[k].setLong(v);
            source.lower(COEFFICIENTS - 1);
            ready = false;
        }

        /** Makes the chain of the polynomial without its repeated factors, and counts the roots. */
        void prepare(Bench bench) {
            if (ready) {
                return;
            }
            chain.link[0].copy(source);
            chain.deriveHead();
            chain.build(bench);
            shared = Math.max(0, chain.last().deg);
            if (shared > 0) {
                bench.setDivisor(chain.last());
                bench.divideByDivisor(source, chain.link[0]);
                chain.deriveHead();
                chain.build(bench);
            }
            start = chain.changesFar(-1);
            count = Math.min(chain.realRoots(), MOST_ROOTS);
            for (int i = 0; i < MOST_ROOTS; i++) {
                root[i].found = false;
            }
            reach = reachOfRoots();
            ready = true;
        }

        /** All roots lie between -2 and 2 to this power (Fujiwara's bound, from lengths in bits). */
        private int reachOfRoots() {
            Poly q = chain.link[0];
            int most = 0;
            for (int k = 1; k <= q.deg; k++) {
                Num c = q.c[q.deg - k];
                if (c.sgn != 0) {
                    int bits = c.bitLength() - q.c[q.deg].bitLength() + 1;
                    most = Math.max(most, 1 - Math.floorDiv(-bits, k));
                }
            }
            return Math.min(most, MOST_REACH);
        }

        int countUpTo(Point x, Bench bench) {
            return start - chain.changesAt(x, bench);
        }

        int sideOf(int i, Point x, Bench bench) {
            int upTo = start - chain.changesAt(x, bench);
            int below = chain.headSign == 0 ? upTo - 1 : upTo;
            if (i < below) {
                return -1;
            }
            return i < upTo ? 0 : 1;
        }

        /** Halves until root i alone lies in its cell, the ends included. */
        void isolate(int i, Bench bench) {
            Root r = root[i];
            if (r.found) {
                return;
            }
            Point x = bench.point;
            x.placeLong(0, 0);
            int upTo = start - chain.changesAt(x, bench);
            int below = chain.headSign == 0 ? upTo - 1 : upTo;
            r.at.setLong(i < below ? -1 : 0);
            r.level = -reach;
            int low = i < below ? 0 : below;
            int high = i < below ? upTo : count;
            for (int t = 0; t < MOST_HALVINGS && high - low > 1; t++) {
                r.toMiddle(x);
                upTo = start - chain.changesAt(x, bench);
                below = chain.headSign == 0 ? upTo - 1 : upTo;
                r.halve(i >= below);
                if (i < below) {
                    high = upTo;
                } else {
                    low = below;
                }
            }
            r.toLow(x);
            r.lowSign = bench.valueAt(chain.link[0], x).sgn;
            r.exact = r.lowSign == 0;
            r.found = true;
        }

        /**
         * Narrows the cell to the level, unless the root is its low end. A leap that comes off makes
         * the next one twice as wide, one that fails half as wide, down to halving.
         */
        void refine(int i, int level, Bench bench) {
            Root r = root[i];
            int width = 1;
            for (int t = 0; t < MOST_HALVINGS && !r.exact && r.level < level; t++) {
                int now = Math.min(width, level - r.level);
                if (now == 1) {
                    halveAtMiddle(r, bench);
                    width = Math.max(width, 2);
                } else if (leap(r, now, bench)) {
                    width = now * 2;
                } else {
                    width = now / 2;
                }
            }
        }

        private void halveAtMiddle(Root r, Bench bench) {
            Point x = bench.point;
            r.toMiddle(x);
            int now = bench.valueAt(chain.link[0], x).sgn;
            r.halve(now == 0 || now == r.lowSign);
            r.exact = now == 0;
        }

        /**
         * Tries to narrow the cell by width levels at once: looks at both cells beside the point
         * where the straight line through the values at the cell's ends is 0.
         */
        private boolean leap(Root r, int width, Bench bench) {
            Poly q = chain.link[0];
            Point x = bench.point;
            guessOnLine(r, width, bench);
            Num guess = bench.guess;
            int level = r.level + width;
            x.place(guess, level);
            int first = bench.valueAt(q, x).sgn;
            int second = 0;
            if (first != 0) {
                guess.step(first == r.lowSign ? 1 : -1);
                x.place(guess, level);
                second = bench.valueAt(q, x).sgn;
            }
            if (first != 0 && second == first) {
                return false;
            }
            if (second != 0 && first == r.lowSign) {
                guess.step(-1);
            }
            r.at.copy(guess);
            r.level = level;
            r.exact = second == 0;
            return true;
        }

        /** The guess becomes the number, width levels down, of the point where the line is 0. */
        private void guessOnLine(Root r, int width, Bench bench) {
            Point x = bench.point;
            r.toLow(x);
            bench.lower.copy(bench.valueAt(chain.link[0], x));
            r.toHigh(x);
            bench.upper.copy(bench.valueAt(chain.link[0], x));
            bench.upper.add(bench.lower, -1);
            // Both ends have different signs: the gap's magnitude is the sum of theirs.
            bench.upper.sgn = Math.abs(bench.upper.sgn);
            bench.lower.sgn = Math.abs(bench.lower.sgn);
            bench.lower.shiftUp(width + 1);
            bench.lower.add(bench.upper, 1);
            bench.upper.shiftUp(1);
            bench.divider.divide(bench.lower, bench.upper);
            bench.guess.copy(r.at);
            bench.guess.shiftUp(width);
            bench.guess.add(bench.divider.quotient, 1);
        }

        /** The whole number not above root i times 2 to the n; the cell is of level n or narrower. */
        Num floorTwo(int i, int n, Bench bench) {
            Root r = root[i];
            bench.lower.copy(r.at);
            bench.lower.move(n - r.level);
            return bench.lower;
        }

        /** The whole number not above root i times 10 to the n. */
        Num floorTen(int i, int n, Bench bench) {
            Root r = root[i];
            bench.setTens(n);
            bench.lower.setProduct(r.at, bench.tens);
            bench.upper.copy(bench.lower);
            bench.upper.add(bench.tens, 1);
            bench.upper.step(-1);
            bench.lower.move(-r.level);
            bench.upper.move(-r.level);
            if (r.exact || bench.lower.same(bench.upper)) {
                return bench.lower;
            }
            int now = bench.signAtFraction(chain.link[0], bench.upper, bench.tens);
            return now == 0 || now == r.lowSign ? bench.upper : bench.lower;
        }

        /** The least n at which root i and the next one have different whole numbers. */
        int firstLevelApart(int i, Bench bench) {
            Root a = root[i];
            Root b = root[i + 1];
            int level = Math.min(a.level, b.level);
            bench.lower.copy(a.at);
            bench.upper.copy(b.at);
            bench.lower.move(level - a.level);
            bench.upper.move(level - b.level);
            int n = level;
            while (n >= 0 && !bench.lower.same(bench.upper)) {
                bench.lower.move(-1);
                bench.upper.move(-1);
                n--;
            }
            return Math.max(0, n + 1);
        }
    }

    /** What a polynomial is at a root of another one. */
    private static final class Query {
        final Chain chain;
        final Poly trial;

        Query() {
            chain = new Chain(Chain.HEAD);
            trial = new Poly(COEFFICIENTS, false);
        }

        /**
         * The sign of the polynomial at the root. The chain that begins with the derivative times
         * the polynomial loses, over the cell, the sum of its signs at the roots in it (Tarski).
         */
        int signOn(Held held, Root r, Poly other, Bench bench) {
            if (other.deg <= 0) {
                return other.leadSign();
            }
            Point x = bench.point;
            r.toLow(x);
            if (r.exact) {
                return bench.valueAt(other, x).sgn;
            }
            multiply(held.chain.link[1], other, bench);
            chain.link[1].copy(held.chain.link[0]);
            chain.build(bench);
            int low = chain.turnedChangesAt(x, bench);
            r.toHigh(x);
            return low - chain.turnedChangesAt(x, bench);
        }

        private void multiply(Poly a, Poly b, Bench bench) {
            Poly product = chain.link[0];
            int top = a.deg + b.deg;
            if (top >= product.c.length) {
                return;
            }
            for (int k = 0; k <= top; k++) {
                product.c[k].clear();
                for (int t = Math.max(0, k - b.deg); t <= Math.min(k, a.deg); t++) {
                    bench.term.setProduct(a.c[t], b.c[k - t]);
                    product.c[k].add(bench.term, 1);
                }
            }
            product.lower(top);
        }

        int multiplicity(Held held, Root r, Bench bench) {
            trial.copy(held.source);
            for (int k = 1; k <= held.shared; k++) {
                trial.derive();
                if (signOn(held, r, trial, bench) != 0) {
                    return k;
                }
            }
            return held.shared + 1;
        }

        /** How root i of one polynomial lies to root j of another one. */
        int compare(Held a, int i, Held b, int j, Bench bench) {
            Root mine = a.root[i];
            Root theirs = b.root[j];
            Point x = bench.point;
            if (mine.exact) {
                mine.toLow(x);
                return -b.sideOf(j, x, bench);
            }
            theirs.toLow(x);
            int low = a.sideOf(i, x, bench);
            if (theirs.exact || low <= 0) {
                return theirs.exact ? low : -1;
            }
            theirs.toHigh(x);
            if (a.sideOf(i, x, bench) >= 0) {
                return 1;
            }
            int now = signOn(a, mine, b.chain.link[0], bench);
            if (now == 0) {
                return 0;
            }
            return now == theirs.lowSign ? -1 : 1;
        }

        /** How many roots both have: those of the greatest common divisor. */
        int countShared(Held a, Held b, Bench bench) {
            boolean swap = a.chain.link[0].deg < b.chain.link[0].deg;
            chain.link[0].copy(swap ? b.chain.link[0] : a.chain.link[0]);
            chain.link[1].copy(swap ? a.chain.link[0] : b.chain.link[0]);
            chain.build(bench);
            if (chain.last().deg <= 0) {
                return 0;
            }
            bench.setDivisor(chain.last());
            chain.link[0].copy(bench.divisor);
            chain.deriveHead();
            chain.build(bench);
            return chain.realRoots();
        }
    }

    /** The digits of the latest whole number. */
    private static final class Text {
        static final int ROOM = 128;
        static final int BLOCK = 1000000000;
        static final int BLOCK_DIGITS = 9;

        final byte[] bytes;
        final byte[] turned;
        final Num left;
        int length;

        Text() {
            bytes = new byte[ROOM];
            turned = new byte[ROOM];
            left = new Num(true);
        }

        int write(Num number) {
            left.copy(number);
            int digits = 0;
            while (left.sgn != 0 && digits + BLOCK_DIGITS < ROOM) {
                int block = left.divideSmall(BLOCK);
                for (int t = 0; t < BLOCK_DIGITS; t++) {
                    turned[digits] = (byte) ('0' + block % 10);
                    block = block / 10;
                    digits++;
                }
            }
            while (digits > 0 && turned[digits - 1] == '0') {
                digits--;
            }
            if (digits == 0) {
                turned[0] = '0';
                digits = 1;
            }
            length = 0;
            if (number.sgn < 0) {
                bytes[0] = '-';
                length = 1;
            }
            for (int k = digits - 1; k >= 0 && length < ROOM; k--) {
                bytes[length] = turned[k];
                length++;
            }
            return length;
        }

        long eightFrom(int k) {
            long all = 0;
            for (int t = 0; t < 8 && k + t < length; t++) {
                all |= (bytes[k + t] & 255L) << (8 * t);
            }
            return all;
        }
    }
}
