import java.util.NoSuchElementException;

/** Promises 1 to 5 (a new object, put, degree, roots, repeated): each boundary has a test of its own. */
public final class EdgesOneToFiveTest {
    private static final Check CHECK = new Check();
    private static final int[] VALUES = {Desks.LOW + 1, -1, 0, 1, Desks.HIGH};

    public static void main(String[] args) {
        bothAreNone();
        outIsEmpty();
        outIsTheLatestFloor();
        outStaysWhenFloorThrows();
        putEveryCoefficient();
        putLeavesTheOthers();
        putAgain();
        putAfterAnswers();
        degreeOfEvery();
        degreeOfNone();
        rootsOfConstants();
        rootsFromNoneToAll();
        rootsOnce();
        rootsFarOut();
        repeatedOfConstants();
        repeatedOfLinear();
        repeatedOfPowers();
        repeatedCountsUnreal();
        repeatedLeavesNumbersOut();
        repeatedWithGaps();
        CHECK.end("EdgesOneToFiveTest");
    }

    private static void bothAreNone() {
        CHECK.sentence("1: Both polynomials are none");
        SturmDesk x = new SturmDesk();
        for (int p = 0; p < 2; p++) {
            int polynomial = p;
            CHECK.due("degree of " + p, x.degree(p), -1);
            CHECK.dueThrow("roots of " + p, IllegalStateException.class, () -> x.roots(polynomial));
        }
        CHECK.dueThrow("common", IllegalStateException.class, x::common);
    }

    private static void outIsEmpty() {
        CHECK.sentence("1: OUT is empty");
        SturmDesk x = new SturmDesk();
        int[] places = {Desks.LOW, -1, 0, 1, 7, 8, 127, 128, Desks.HIGH};
        for (int k : places) {
            CHECK.dueThrow("out(" + k + ") of a new object", NoSuchElementException.class, () -> x.out(k));
        }
    }

    private static void outIsTheLatestFloor() {
        CHECK.sentence("1: it is the text of the latest floor");
        SturmDesk x = Desks.both(Desks.p(-2, 0, 1), Desks.p(7, 1));
        x.roots(0);
        x.sign(0, 1, 0);
        x.apart(0);
        x.common();
        CHECK.dueText("OUT before the first floor", Desks.out(x), "");
        x.floor(0, 1, true, 90);
        x.floor(0, 1, true, 4);
        CHECK.dueText("OUT after a floor with a shorter text", Desks.out(x), "14142");
        x.floor(1, 0, false, 1);
        CHECK.dueText("OUT after a floor of the other polynomial", Desks.out(x), "-14");
        x.floor(0, 0, true, 12);
        CHECK.dueText("OUT after a floor with a longer text", Desks.out(x), "-1414213562374");
        x.roots(1);
        x.repeated(0);
        x.multiple(0, 0);
        x.side(0, 0, 1, 1);
        x.between(0, 0, 0, 1, 0);
        x.order(0, 0);
        x.signAt(0, 0);
        x.put(0, 0, -3);
        Desks.set(x, 1);
        CHECK.dueText("OUT after calls that are no floor", Desks.out(x), "-1414213562374");
    }

    private static void outStaysWhenFloorThrows() {
        CHECK.sentence("1: the latest floor that did not throw");
        SturmDesk x = new SturmDesk();
        CHECK.dueThrow("floor of none", IllegalStateException.class, () -> x.floor(0, 0, true, 0));
        CHECK.dueText("OUT after the only floor threw", Desks.out(x), "");
        Desks.set(x, 0, -123, 1);
        x.floor(0, 0, true, 0);
        CHECK.dueThrow("floor of none", IllegalStateException.class, () -> x.floor(1, 0, true, 0));
        CHECK.dueText("OUT after a floor of none", Desks.out(x), "123");
        CHECK.dueThrow("floor of root 1", NoSuchElementException.class, () -> x.floor(0, 1, true, 0));
        CHECK.dueText("OUT after a floor without a root", Desks.out(x), "123");
        CHECK.dueThrow("floor with n 91", IllegalArgumentException.class, () -> x.floor(0, 0, true, 91));
        CHECK.dueText("OUT after a floor with too many digits", Desks.out(x), "123");
        CHECK.dueThrow("floor of polynomial 2", IllegalArgumentException.class, () -> x.floor(2, 0, true, 0));
        CHECK.dueText("OUT after a floor without a polynomial", Desks.out(x), "123");
    }

    private static void putEveryCoefficient() {
        CHECK.sentence("2: Coefficient k of a polynomial becomes v.");
        for (int polynomial = 0; polynomial < 2; polynomial++) {
            for (int k = 0; k < 9; k++) {
                for (int v : VALUES) {
                    SturmDesk x = new SturmDesk();
                    x.put(polynomial, k, 77);
                    x.put(polynomial, k, v);
                    CHECK.due("put(" + polynomial + ", " + k + ", " + v + ")",
                            Desks.isCoefficient(x, polynomial, k, v) ? 1 : 0, 1);
                }
            }
        }
    }

    private static void putLeavesTheOthers() {
        CHECK.sentence("2: Coefficient k of a polynomial becomes v. (no other one)");
        for (int changed = 0; changed < 18; changed++) {
            for (int seen = 0; seen < 18; seen++) {
                SturmDesk x = new SturmDesk();
                for (int c = 0; c < 18; c++) {
                    x.put(c / 9, c % 9, 1000 + c);
                }
                x.put(changed / 9, changed % 9, -5);
                int want = seen == changed ? -5 : 1000 + seen;
                CHECK.due("coefficient " + seen + " after a put of " + changed,
                        Desks.isCoefficient(x, seen / 9, seen % 9, want) ? 1 : 0, 1);
            }
        }
    }

    private static void putAgain() {
        CHECK.sentence("2: becomes v (whatever it was)");
        SturmDesk x = Desks.one(-2, 0, 1);
        x.put(0, 0, -2);
        CHECK.dueText("the same value again", Desks.floor(x, 0, 1, true, 3), "1414");
        x.put(0, 0, -3);
        x.put(0, 0, -2);
        CHECK.dueText("there and back", Desks.floor(x, 0, 1, true, 3), "1414");
        x.put(0, 0, Desks.LOW);
        x.put(0, 0, 0);
        CHECK.due("0 takes the lowest int away", x.multiple(0, 0), 2);
    }

    private static void putAfterAnswers() {
        CHECK.sentence("2: becomes v (in every answer that comes later)");
        SturmDesk x = Desks.both(Desks.withRoots(1, 2, 2, 5), Desks.withRoots(2, 4));
        askAll(x);
        Desks.set(x, 0, Desks.withRoots(-3, 4, 4, 4));
        CHECK.due("roots", x.roots(0), 2);
        CHECK.due("repeated", x.repeated(0), 2);
        CHECK.due("sign", x.sign(0, 1, 0), -1);
        CHECK.due("between", x.between(0, 0, 0, 9, 0), 1);
        CHECK.due("multiple", x.multiple(0, 1), 3);
        CHECK.due("side", x.side(0, 0, -3, 0), 0);
        CHECK.due("order", x.order(1, 1), 0);
        CHECK.due("signAt of the changed one", x.signAt(0, 1), 0);
        CHECK.due("signAt of the other one", x.signAt(1, 0), -1);
        CHECK.due("common", x.common(), 1);
        CHECK.dueText("floor", Desks.floor(x, 0, 0, true, 1), "-30");
        Desks.set(x, 0, 0, -1, 8);
        CHECK.due("apart", x.apart(0), 3);
        CHECK.due("degree", x.degree(0), 2);
    }

    private static void askAll(SturmDesk x) {
        for (int i = 0; i < 3; i++) {
            x.floor(0, i, true, 40);
            x.multiple(0, i);
            x.signAt(0, i);
        }
        x.apart(0);
        x.order(0, 0);
        x.common();
    }

    private static void degreeOfEvery() {
        CHECK.sentence("3: The degree");
        int[] values = {Desks.LOW, -1, 1, Desks.HIGH};
        for (int polynomial = 0; polynomial < 2; polynomial++) {
            for (int k = 0; k < 9; k++) {
                for (int v : values) {
                    SturmDesk x = new SturmDesk();
                    x.put(polynomial, k, v);
                    CHECK.due("degree of " + v + " x^" + k, x.degree(polynomial), k);
                    CHECK.due("degree of the other polynomial", x.degree(1 - polynomial), -1);
                }
            }
        }
    }

    private static void degreeOfNone() {
        CHECK.sentence("3: -1 for none");
        SturmDesk x = Desks.both(Desks.p(4), Desks.p(0, 0, 0, 0, 0, 0, 0, 0, 4));
        CHECK.due("degree of a constant is 0, not -1", x.degree(0), 0);
        x.put(0, 0, 0);
        x.put(1, 8, 0);
        CHECK.due("degree of polynomial 0, none again", x.degree(0), -1);
        CHECK.due("degree of polynomial 1, none again", x.degree(1), -1);
    }

    private static void rootsOfConstants() {
        CHECK.sentence("4: How many roots (a constant has none)");
        int[] values = {Desks.LOW, -1, 1, Desks.HIGH};
        for (int v : values) {
            SturmDesk x = Desks.both(Desks.p(v), Desks.p(v));
            CHECK.due("roots of " + v + " in 0", x.roots(0), 0);
            CHECK.due("roots of " + v + " in 1", x.roots(1), 0);
        }
    }

    private static void rootsFromNoneToAll() {
        CHECK.sentence("4: How many roots (from 0 to 8)");
        int[] all = {0, -1, 1, -2, 2, -3, 3, -4};
        for (int n = 0; n <= 8; n++) {
            int[] c = Desks.withRoots(java.util.Arrays.copyOf(all, n));
            SturmDesk x = Desks.both(c, c);
            CHECK.due("roots of a polynomial of degree " + n, x.roots(0), n);
            for (int k = 0; k < c.length; k++) {
                x.put(1, k, -c[k]);
            }
            CHECK.due("roots of it turned round", x.roots(1), n);
        }
        for (int n = 2; n <= 8; n += 2) {
            SturmDesk x = Desks.one(Desks.power(Desks.p(1, 1, 1), n / 2));
            CHECK.due("roots of (x^2 + x + 1)^" + n / 2, x.roots(0), 0);
            x.put(0, 0, -x.degree(0));
            CHECK.due("roots of it less " + (n + 1), x.roots(0), 2);
        }
    }

    private static void rootsOnce() {
        CHECK.sentence("4: How many roots (each once, whatever its multiplicity)");
        for (int n = 1; n <= 8; n++) {
            SturmDesk x = Desks.one(Desks.power(Desks.p(1, -2), n));
            CHECK.due("roots of (1 - 2 x)^" + n, x.roots(0), 1);
        }
        SturmDesk x = Desks.one(Desks.withRoots(0, 0, 1, 1, 1, 2, -5, -5));
        CHECK.due("roots 0, 0, 1, 1, 1, 2, -5, -5", x.roots(0), 4);
    }

    private static void rootsFarOut() {
        CHECK.sentence("4: How many roots (of the widest coefficients)");
        int low = Desks.LOW;
        SturmDesk x = Desks.one(low, low, low, low, low, low, low, low, 1);
        CHECK.due("roots near -1 and above 2^31", x.roots(0), 2);
        CHECK.due("the last one is above 2^31", x.side(0, 1, 1L << 31, 0), 1);
        CHECK.due("and below 2^31 + 1", x.side(0, 1, (1L << 31) + 1, 0), -1);
        Desks.set(x, 0, 1, low);
        CHECK.due("roots of 1 - 2^31 x", x.roots(0), 1);
        Desks.set(x, 0, low, 0, 0, 0, 0, 0, 0, 0, low);
        CHECK.due("roots of -2^31 x^8 - 2^31", x.roots(0), 0);
        Desks.set(x, 0, low, 0, 0, 0, 0, 0, 0, 0, Desks.HIGH);
        CHECK.due("roots of (2^31 - 1) x^8 - 2^31", x.roots(0), 2);
    }

    private static void repeatedOfConstants() {
        CHECK.sentence("5: 0 for a constant");
        int[] values = {Desks.LOW, -4, -1, 1, 4, Desks.HIGH};
        for (int v : values) {
            SturmDesk x = Desks.both(Desks.p(v), Desks.p(v));
            CHECK.due("repeated of " + v + " in 0", x.repeated(0), 0);
            CHECK.due("repeated of " + v + " in 1", x.repeated(1), 0);
        }
    }

    private static void repeatedOfLinear() {
        CHECK.sentence("5: The degree of its greatest common divisor with its derivative (0 when none is repeated)");
        SturmDesk x = Desks.one(0, 6);
        CHECK.due("repeated of 6 x", x.repeated(0), 0);
        Desks.set(x, 0, Desks.withRoots(0, 1, 2, 3, 4, 5, 6, 7));
        CHECK.due("repeated of eight roots", x.repeated(0), 0);
        Desks.set(x, 0, 1, 0, 0, 0, 0, 0, 0, 0, 1);
        CHECK.due("repeated of x^8 + 1", x.repeated(0), 0);
    }

    private static void repeatedOfPowers() {
        CHECK.sentence("5: The degree of its greatest common divisor with its derivative");
        for (int n = 1; n <= 8; n++) {
            SturmDesk x = Desks.one(Desks.power(Desks.p(2, 3), n));
            CHECK.due("repeated of (3 x + 2)^" + n, x.repeated(0), n - 1);
            Desks.set(x, 0, Desks.single(n, Desks.LOW));
            CHECK.due("repeated of -2^31 x^" + n, x.repeated(0), n - 1);
        }
        SturmDesk x = Desks.one(Desks.withRoots(1, 1, 2, 2, 2, 3, 4, 4));
        CHECK.due("repeated of roots 1, 1, 2, 2, 2, 3, 4, 4", x.repeated(0), 4);
    }

    private static void repeatedCountsUnreal() {
        CHECK.sentence("5: so those that are no real numbers count, too");
        for (int n = 1; n <= 4; n++) {
            SturmDesk x = Desks.one(Desks.power(Desks.p(1, 0, 1), n));
            CHECK.due("repeated of (x^2 + 1)^" + n, x.repeated(0), 2 * n - 2);
            CHECK.due("it has no roots", x.roots(0), 0);
        }
        SturmDesk x = Desks.one(Desks.product(Desks.power(Desks.p(1, 0, 1), 2), Desks.withRoots(5, 5, 5)));
        CHECK.due("repeated of (x^2 + 1)^2 (x - 5)^3", x.repeated(0), 4);
    }

    private static void repeatedLeavesNumbersOut() {
        CHECK.sentence("5: The degree of its greatest common divisor (a number has degree 0)");
        SturmDesk x = Desks.one(-16, 0, 8);
        CHECK.due("repeated of 8 x^2 - 16", x.repeated(0), 0);
        Desks.set(x, 0, 8, 16, 8);
        CHECK.due("repeated of 8 (x + 1)^2", x.repeated(0), 1);
    }

    private static void repeatedWithGaps() {
        CHECK.sentence("5: The degree of its greatest common divisor (with gaps between the coefficients)");
        // 1 is a root of each twice, and of the last one three times.
        int[][] all = {
            {30, -44, 7, 5, -2, 3, 0, 0, 1},
            {15, -22, 6, -2, 2, 0, 0, 0, 1},
            {7, -8, 0, 0, 0, 0, 0, 0, 1},
            {-21, 48, -28, 0, 0, 0, 0, 0, 1},
        };
        int[] want = {1, 1, 1, 2};
        for (int t = 0; t < all.length; t++) {
            SturmDesk x = Desks.one(all[t]);
            String name = java.util.Arrays.toString(all[t]);
            CHECK.due("repeated of " + name, x.repeated(0), want[t]);
            int i = x.between(0, Long.MIN_VALUE, 0, 1, 0) - 1;
            CHECK.due("1 is a root of " + name, x.side(0, i, 1, 0), 0);
            CHECK.due("multiple of 1 in " + name, x.multiple(0, i), want[t] + 1);
        }
    }
}
