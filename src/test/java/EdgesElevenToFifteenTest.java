import java.math.BigInteger;
import java.util.NoSuchElementException;

/** Promises 11 to 15 (apart, order, signAt, common, out): each boundary has a test of its own. */
public final class EdgesElevenToFifteenTest {
    private static final Check CHECK = new Check();

    /** x^8 - 2 (32767 x - 1)^2: roots 1 and 2 lie around 1 / 32767, alike in 74 binary places. */
    private static final int[] NEAR = {-2, 131068, -2147352578, 0, 0, 0, 0, 0, 1};

    public static void main(String[] args) {
        apartWithFewRoots();
        apartIsNotBelowZero();
        apartIsTheLeast();
        apartBelowZero();
        apartOverWholes();
        apartAllDifferent();
        apartOfRepeated();
        apartOfNearest();
        apartAfterFloors();
        orderBelow();
        orderIs();
        orderAbove();
        orderOfNearRoots();
        orderOfAll();
        orderAfterFloors();
        signAtOfConstants();
        signAtIsZero();
        signAtOfNearRoots();
        signAtIsTheOthers();
        signAtWide();
        signAtAfterFloors();
        commonNone();
        commonAll();
        commonOnce();
        commonUnreal();
        commonNear();
        commonWithGaps();
        outLowestFirst();
        outBehindItsEnd();
        outOfShorterText();
        outNoSuchByte();
        outOfLongest();
        CHECK.end("EdgesElevenToFifteenTest");
    }

    private static void apartWithFewRoots() {
        CHECK.sentence("11: 0 with fewer than two roots");
        int[][] few = {
            {Desks.LOW}, {1}, {1, 0, 1}, {1, 0, 0, 0, 0, 0, 0, 0, 1}, {-1, 3}, {1, Desks.LOW}, {Desks.LOW, 1},
            Desks.power(Desks.p(-1, 3), 8), Desks.single(8, 5), {0, 1, 0, 1},
        };
        for (int[] c : few) {
            SturmDesk x = Desks.both(c, c);
            CHECK.due("apart of " + java.util.Arrays.toString(c), x.apart(0), 0);
            CHECK.due("apart of it in 1", x.apart(1), 0);
        }
    }

    private static void apartIsNotBelowZero() {
        CHECK.sentence("11: The least n, 0 or above");
        SturmDesk x = Desks.one(Desks.withRoots(0, 1));
        CHECK.due("apart of 0 and 1", x.apart(0), 0);
        Desks.set(x, 0, Desks.withRoots(-1, 0));
        CHECK.due("apart of -1 and 0", x.apart(0), 0);
        Desks.set(x, 0, 0, Desks.LOW, 1);
        CHECK.due("apart of 0 and 2^31", x.apart(0), 0);
        Desks.set(x, 0, -1, 0, 1 << 30);
        CHECK.due("apart of -1 / 2^15 and 1 / 2^15", x.apart(0), 0);
        Desks.set(x, 0, Desks.LOW, 0, 1);
        CHECK.due("apart of the roots of 2^31", x.apart(0), 0);
        Desks.set(x, 0, Desks.withRoots(-4, -3, -2, -1, 0, 1, 2, 3));
        CHECK.due("apart of -4 .. 3", x.apart(0), 0);
    }

    private static void apartIsTheLeast() {
        CHECK.sentence("11: The least n .. at which the greatest whole numbers .. are all different");
        for (int k = 0; k <= 31; k++) {
            // x - 2^k x^2
            SturmDesk x = Desks.one(0, 1, k == 31 ? Desks.LOW : -(1 << k));
            CHECK.due("apart of 0 and 1 / 2^" + k, x.apart(0), k);
        }
        SturmDesk x = Desks.one(Desks.product(Desks.p(-1, 3), Desks.p(-1, 2)));
        CHECK.due("apart of 1 / 3 and 1 / 2", x.apart(0), 1);
        Desks.set(x, 0, Desks.product(Desks.p(-1, 5), Desks.p(-1, 6)));
        CHECK.due("apart of 1 / 6 and 1 / 5", x.apart(0), 4);
        Desks.set(x, 0, Desks.product(Desks.p(-32767, 65536), Desks.p(-1, 2)));
        CHECK.due("apart of just below 1 / 2 and 1 / 2", x.apart(0), 1);
        Desks.set(x, 0, Desks.product(Desks.p(-32767, 32768), Desks.p(-32766, 32768)));
        CHECK.due("apart of 1 - 2 / 2^15 and 1 - 1 / 2^15", x.apart(0), 15);
    }

    private static void apartBelowZero() {
        CHECK.sentence("11: the greatest whole numbers not above the roots (of -1/2 and -1: both -1)");
        SturmDesk x = Desks.one(Desks.product(Desks.p(1, 2), Desks.p(1, 1)));
        CHECK.due("apart of -1 and -1 / 2", x.apart(0), 1);
        Desks.set(x, 0, Desks.product(Desks.p(3, 2), Desks.p(1, 1)));
        CHECK.due("apart of -3 / 2 and -1", x.apart(0), 0);
        Desks.set(x, 0, 0, 1, Desks.HIGH);
        CHECK.due("apart of just below 0 and 0", x.apart(0), 0);
        Desks.set(x, 0, Desks.product(Desks.p(1, 32767), Desks.p(1, 32768)));
        CHECK.due("apart of -1 / 32767 and -1 / 32768", x.apart(0), 15);
        Desks.set(x, 0, Desks.product(Desks.p(1, 32766), Desks.p(1, 32767)));
        CHECK.due("apart of -1 / 32766 and -1 / 32767", x.apart(0), 29);
    }

    private static void apartOverWholes() {
        CHECK.sentence("11: are all different (near roots with a whole number between them are)");
        SturmDesk x = Desks.one(Desks.product(Desks.p(-32767, 32768), Desks.p(-1, 1)));
        CHECK.due("apart of just below 1 and 1", x.apart(0), 0);
        Desks.set(x, 0, Desks.product(Desks.p(-32769, 32768), Desks.p(-1, 1)));
        CHECK.due("apart of 1 and just above 1", x.apart(0), 15);
        Desks.set(x, 0, Desks.product(Desks.p(-2, 0, 1), Desks.p(-3, 0, 1)));
        CHECK.due("apart of the roots of 2 and of 3", x.apart(0), 1);
    }

    private static void apartAllDifferent() {
        CHECK.sentence("11: are all different (the nearest two tell, wherever they stand)");
        int[] pair = Desks.product(Desks.p(0, 1), Desks.p(-1, 64));
        SturmDesk x = Desks.one(Desks.product(pair, Desks.withRoots(3, 5)));
        CHECK.due("apart, the first two", x.apart(0), 6);
        Desks.set(x, 0, Desks.product(pair, Desks.withRoots(-3, 5)));
        CHECK.due("apart, the middle two", x.apart(0), 6);
        Desks.set(x, 0, Desks.product(pair, Desks.withRoots(-3, -5)));
        CHECK.due("apart, the last two", x.apart(0), 6);
        Desks.set(x, 0, Desks.product(pair, Desks.product(Desks.p(-1, 2), Desks.p(-161, 32))));
        CHECK.due("apart of 0, 1 / 64, 1 / 2, 5 + 1 / 32", x.apart(0), 6);
    }

    private static void apartOfRepeated() {
        CHECK.sentence("11: the roots .. are all different (each is one root, whatever its multiplicity)");
        int[] pair = Desks.product(Desks.p(-1, 1), Desks.p(-3, 2));
        SturmDesk x = Desks.one(Desks.power(pair, 4));
        CHECK.due("apart of 1 and 3 / 2, four times each", x.apart(0), 1);
        Desks.set(x, 0, Desks.power(Desks.withRoots(1, 2), 4));
        CHECK.due("apart of 1 and 2, four times each", x.apart(0), 0);
    }

    private static void apartOfNearest() {
        CHECK.sentence("11: The least n (however near the roots are)");
        SturmDesk x = Desks.both(NEAR, nearest());
        CHECK.due("apart of x^8 - 2 (32767 x - 1)^2", x.apart(0), 75);
        CHECK.due("apart of (x^4 - a x + 1)^2 - 2 x^6 (a x - 1)^2", x.apart(1), 118);
        for (int i = 1; i <= 2; i++) {
            CHECK.due("both are alike before: root " + i, x.floor(1, i, false, 117), 31);
        }
        CHECK.due("apart again", x.apart(1), 118);
    }

    /** (x^4 - a x + 1)^2 - 2 x^6 (a x - 1)^2 with a 32767. */
    private static int[] nearest() {
        int a = 32767;
        return Desks.p(1, -2 * a, a * a, 0, 2, -2 * a, -2, 4 * a, 1 - 2 * a * a);
    }

    private static void apartAfterFloors() {
        CHECK.sentence("11: The least n (whatever was asked before)");
        SturmDesk x = Desks.one(NEAR);
        x.floor(0, 1, false, 300);
        CHECK.due("apart after digits of root 1", x.apart(0), 75);
        x.floor(0, 3, true, 90);
        x.floor(0, 2, true, 90);
        CHECK.due("apart after digits of all", x.apart(0), 75);
        Desks.set(x, 0, 0, -1, 2);
        x.floor(0, 1, false, 300);
        CHECK.due("apart of 0 and 1 / 2 after digits", x.apart(0), 1);
    }

    private static void orderBelow() {
        CHECK.sentence("12: -1 ..: root i of polynomial 0 lies below root j of polynomial 1");
        SturmDesk x = Desks.both(Desks.p(-1, 3), Desks.p(-1, 2));
        CHECK.due("1 / 3 and 1 / 2", x.order(0, 0), -1);
        Desks.set(x, 1, -768398401, 543339720);
        Desks.set(x, 0, -2, 0, 1);
        CHECK.due("the root of 2 and 768398401 / 543339720", x.order(1, 0), -1);
        Desks.set(x, 0, Desks.LOW, -1);
        Desks.set(x, 1, Desks.HIGH, 1);
        CHECK.due("-2^31 and 1 - 2^31", x.order(0, 0), -1);
        Desks.set(x, 0, 0, 1);
        Desks.set(x, 1, -1, Desks.HIGH);
        CHECK.due("0 and just above 0", x.order(0, 0), -1);
    }

    private static void orderIs() {
        CHECK.sentence("12: 0 ..: is it");
        int[][] alike = {{0, 1}, {-7, 1}, {-3, 4}, {-1, 3}, {1, 7}, {Desks.HIGH, Desks.LOW}};
        for (int[] c : alike) {
            SturmDesk x = Desks.both(c, c);
            CHECK.due("the root of " + java.util.Arrays.toString(c) + " and itself", x.order(0, 0), 0);
        }
        SturmDesk x = Desks.both(Desks.p(-2, 0, 1), Desks.power(Desks.p(-2, 0, 1), 3));
        CHECK.due("the root of 2 once and three times", x.order(1, 1), 0);
        Desks.set(x, 1, Desks.product(Desks.p(-2, 0, 1), Desks.p(-7, 5)));
        CHECK.due("the root of 2 beside 7 / 5", x.order(1, 2), 0);
        CHECK.due("the root of 2 and 7 / 5", x.order(1, 1), 1);
        Desks.set(x, 0, 5, -10, 5);
        Desks.set(x, 1, -3, 3);
        CHECK.due("1 twice and once", x.order(0, 0), 0);
    }

    private static void orderAbove() {
        CHECK.sentence("12: 1: lies above it");
        SturmDesk x = Desks.both(Desks.p(-1, 2), Desks.p(-1, 3));
        CHECK.due("1 / 2 and 1 / 3", x.order(0, 0), 1);
        Desks.set(x, 0, -2, 0, 1);
        Desks.set(x, 1, -1855077841, 1311738121);
        CHECK.due("the root of 2 and 1855077841 / 1311738121", x.order(1, 0), 1);
        Desks.set(x, 0, Desks.LOW, 1);
        Desks.set(x, 1, -Desks.HIGH, 1);
        CHECK.due("2^31 and 2^31 - 1", x.order(0, 0), 1);
        Desks.set(x, 0, 0, 1);
        Desks.set(x, 1, 1, Desks.HIGH);
        CHECK.due("0 and just below 0", x.order(0, 0), 1);
    }

    private static void orderOfNearRoots() {
        CHECK.sentence("12: lies below .., is it, lies above it (however near they are)");
        SturmDesk x = Desks.both(NEAR, Desks.p(-1, 32767));
        int[] want = {-1, -1, 1, 1};
        for (int i = 0; i < 4; i++) {
            CHECK.due("root " + i + " and 1 / 32767", x.order(i, 0), want[i]);
        }
        SturmDesk y = Desks.both(Desks.p(-1, 32767), NEAR);
        for (int i = 0; i < 4; i++) {
            CHECK.due("1 / 32767 and root " + i, y.order(0, i), -want[i]);
        }
        SturmDesk z = Desks.both(nearest(), nearest());
        CHECK.due("root 1 and root 2", z.order(1, 2), -1);
        CHECK.due("root 2 and root 1", z.order(2, 1), 1);
        CHECK.due("root 2 and itself", z.order(2, 2), 0);
        z.put(1, 3, 1);
        z.put(0, 3, -1);
        CHECK.due("root 0 of polynomials that differ in one coefficient", z.order(0, 0), orderByOracle(-1, 1));
    }

    /** How root 0 of both lies when coefficient 3 is changed. */
    private static int orderByOracle(int zero, int one) {
        return Oracle.order(oracle(3, zero), 0, oracle(3, one), 0);
    }

    private static Oracle oracle(int k, int v) {
        int[] c = nearest();
        c[k] = v;
        BigInteger[] wide = new BigInteger[c.length];
        for (int t = 0; t < c.length; t++) {
            wide[t] = BigInteger.valueOf(c[t]);
        }
        return new Oracle(wide);
    }

    private static void orderOfAll() {
        CHECK.sentence("12: root i of polynomial 0 .. root j of polynomial 1 (the first and the last)");
        int[] c = Desks.withRoots(-4, -3, -2, -1, 0, 1, 2, 3);
        SturmDesk x = Desks.both(c, c);
        for (int i = 0; i < 8; i++) {
            for (int j = 0; j < 8; j++) {
                CHECK.due("order(" + i + ", " + j + ")", x.order(i, j), Integer.compare(i, j));
            }
        }
    }

    private static void orderAfterFloors() {
        CHECK.sentence("12: lies below .., is it, lies above it (whatever was asked before)");
        for (int n = 0; n <= 12; n++) {
            SturmDesk x = halves();
            askFloors(x, n);
            CHECK.due("-5 / 8 and 1 / 3 after floors up to " + n, x.order(0, 0), -1);
            CHECK.due("1 / 2 and 1 / 3 after floors up to " + n, x.order(1, 0), 1);
            CHECK.due("1 / 2 and 1 / 2 after floors up to " + n, x.order(1, 1), 0);
            CHECK.due("-5 / 8 and 1 / 2 after floors up to " + n, x.order(0, 1), -1);
        }
    }

    /** Roots -5 / 8 and 1 / 2, and 1 / 3 and 1 / 2. */
    private static SturmDesk halves() {
        return Desks.both(Desks.product(Desks.p(-1, 2), Desks.p(5, 8)), Desks.product(Desks.p(-1, 3), Desks.p(-1, 2)));
    }

    private static void askFloors(SturmDesk x, int most) {
        for (int n = 0; n <= most; n++) {
            for (int i = 0; i < 2; i++) {
                x.floor(0, i, false, n);
                x.floor(1, i, false, n);
            }
        }
    }

    private static void signAtOfConstants() {
        CHECK.sentence("13: The sign of the other polynomial's value (a constant's)");
        int[] values = {Desks.LOW, -1, 1, Desks.HIGH};
        for (int v : values) {
            SturmDesk x = Desks.both(Desks.p(-2, 0, 1), Desks.p(v));
            CHECK.due("the sign of " + v, x.signAt(0, 1), Integer.signum(v));
            CHECK.dueThrow("a root of " + v, NoSuchElementException.class, () -> x.signAt(1, 0));
        }
    }

    private static void signAtIsZero() {
        CHECK.sentence("13: 0 (where it is a root of both)");
        SturmDesk x = Desks.both(Desks.withRoots(1, 2, 2, 3), Desks.power(Desks.withRoots(2, 4), 4));
        int[] want = {1, 0, 1};
        for (int i = 0; i < 3; i++) {
            CHECK.due("signAt(0, " + i + ")", x.signAt(0, i), want[i]);
        }
        CHECK.due("signAt(1, 0)", x.signAt(1, 0), 0);
        CHECK.due("signAt(1, 1)", x.signAt(1, 1), 1);
        Desks.set(x, 0, -1, 3);
        Desks.set(x, 1, Desks.product(Desks.p(-1, 3), Desks.p(1, 0, 1)));
        CHECK.due("at 1 / 3", x.signAt(0, 0), 0);
        CHECK.due("at 1 / 3 of the other", x.signAt(1, 0), 0);
        Desks.set(x, 0, 0, 1);
        Desks.set(x, 1, Desks.single(8, Desks.LOW));
        CHECK.due("at 0", x.signAt(0, 0), 0);
    }

    private static void signAtOfNearRoots() {
        CHECK.sentence("13: -1, 0, 1 (0 only where it is 0)");
        SturmDesk x = Desks.both(NEAR, Desks.p(-1, 32767));
        int[] want = {-1, -1, 1, 1};
        for (int i = 0; i < 4; i++) {
            CHECK.due("32767 x - 1 at root " + i, x.signAt(0, i), want[i]);
        }
        CHECK.due("x^8 - .. at 1 / 32767", x.signAt(1, 0), 1);
        Desks.set(x, 0, -2, 0, 1);
        Desks.set(x, 1, -1855077841, 1311738121);
        CHECK.due("just above", x.signAt(0, 1), 1);
        Desks.set(x, 1, -768398401, 543339720);
        CHECK.due("just below", x.signAt(0, 1), -1);
    }

    private static void signAtIsTheOthers() {
        CHECK.sentence("13: the other polynomial's value at root i of this one");
        SturmDesk x = Desks.both(Desks.withRoots(-4, -3, -2, -1, 0, 1, 2, 3), Desks.p(-1, 2));
        for (int i = 0; i < 8; i++) {
            CHECK.due("2 x - 1 at " + (i - 4), x.signAt(0, i), i < 5 ? -1 : 1);
        }
        CHECK.due("the product at 1 / 2", x.signAt(1, 0), -1);
        x.put(1, 0, -3);
        CHECK.due("the product at 3 / 2", x.signAt(1, 0), 1);
    }

    private static void signAtWide() {
        CHECK.sentence("13: The sign (of the widest coefficients)");
        int low = Desks.LOW;
        int[] wide = {low, low, low, low, low, low, low, low, 1};
        SturmDesk x = Desks.both(wide, Desks.p(-2, -1, -1, -1, -1, -1, -1, -1, low));
        CHECK.due("at the far root", x.signAt(0, 1), -1);
        CHECK.due("at the root near -1", x.signAt(0, 0), -1);
        Desks.set(x, 1, low, 1);
        CHECK.due("x - 2^31 at the far root, less than 1 above it", x.signAt(0, 1), 1);
        Desks.set(x, 1, 1, 1);
        CHECK.due("x + 1 at the root just above -1", x.signAt(0, 0), 1);
    }

    private static void signAtAfterFloors() {
        CHECK.sentence("13: The sign of the other polynomial's value at root i (whatever was asked before)");
        for (int n = 0; n <= 12; n++) {
            SturmDesk x = halves();
            askFloors(x, n);
            CHECK.due("at -5 / 8 after floors up to " + n, x.signAt(0, 0), 1);
            CHECK.due("at 1 / 2 after floors up to " + n, x.signAt(0, 1), 0);
            CHECK.due("at 1 / 3 after floors up to " + n, x.signAt(1, 0), -1);
            x.put(1, 0, -1);
            CHECK.due("at 1 / 2 after a put", x.signAt(0, 1), -1);
        }
    }

    private static void commonNone() {
        CHECK.sentence("14: How many roots both polynomials have in common (0)");
        int[][] pairs = {{5}, {-1, 1}, {1, 0, 1}, {Desks.LOW}};
        for (int[] c : pairs) {
            SturmDesk x = Desks.both(c, Desks.p(-2, 0, 1));
            CHECK.due(java.util.Arrays.toString(c) + " and x^2 - 2", x.common(), 0);
            Desks.set(x, 1, 9);
            CHECK.due(java.util.Arrays.toString(c) + " and 9", x.common(), 0);
        }
        SturmDesk x = Desks.both(Desks.p(5), Desks.p(5));
        CHECK.due("the same constant", x.common(), 0);
    }

    private static void commonAll() {
        CHECK.sentence("14: How many roots both polynomials have in common (up to 8)");
        for (int n = 0; n <= 8; n++) {
            int[] some = {0, 1, 2, 3, 4, 5, 6, 7};
            for (int k = n; k < 8; k++) {
                some[k] = -1 - k;
            }
            SturmDesk x = Desks.both(Desks.withRoots(0, 1, 2, 3, 4, 5, 6, 7), Desks.withRoots(some));
            CHECK.due(n + " in common", x.common(), n);
            SturmDesk y = Desks.both(Desks.withRoots(some), Desks.withRoots(0, 1, 2, 3, 4, 5, 6, 7));
            CHECK.due(n + " in common, the other way", y.common(), n);
        }
        SturmDesk x = Desks.both(Desks.p(-2, 0, 1), Desks.p(-2, 1, 1));
        CHECK.due("x^2 - 2 and x^2 + x - 2", x.common(), 0);
        Desks.set(x, 1, 6, 0, -3);
        CHECK.due("x^2 - 2 and 6 - 3 x^2", x.common(), 2);
        Desks.set(x, 1, Desks.product(Desks.p(-2, 0, 1), Desks.withRoots(0, 1, 2, 3, 4, 5)));
        CHECK.due("x^2 - 2 and a multiple of degree 8", x.common(), 2);
    }

    private static void commonOnce() {
        CHECK.sentence("14: each once, whatever its multiplicities");
        SturmDesk x = Desks.both(Desks.single(8, 3), Desks.single(8, -7));
        CHECK.due("3 x^8 and -7 x^8", x.common(), 1);
        Desks.set(x, 0, Desks.withRoots(1, 1, 1, 2, 2, 5));
        Desks.set(x, 1, Desks.withRoots(1, 1, 2, 2, 2, 6));
        CHECK.due("1, 1, 1, 2, 2, 5 and 1, 1, 2, 2, 2, 6", x.common(), 2);
        Desks.set(x, 1, -1, 1);
        CHECK.due("1, 1, 1, 2, 2, 5 and 1", x.common(), 1);
        Desks.set(x, 0, Desks.power(Desks.p(-2, 0, 1), 4));
        Desks.set(x, 1, Desks.power(Desks.p(-2, 0, 1), 3));
        CHECK.due("(x^2 - 2)^4 and (x^2 - 2)^3", x.common(), 2);
    }

    private static void commonUnreal() {
        CHECK.sentence("14: roots .. in common (those that are no real numbers are none)");
        SturmDesk x = Desks.both(Desks.p(1, 0, 1), Desks.p(1, 0, 1));
        CHECK.due("x^2 + 1 twice", x.common(), 0);
        Desks.set(x, 0, Desks.product(Desks.p(1, 0, 1), Desks.withRoots(3, 4)));
        Desks.set(x, 1, Desks.product(Desks.p(1, 0, 1), Desks.withRoots(4, 5)));
        CHECK.due("x^2 + 1 and 4 in common", x.common(), 1);
        Desks.set(x, 0, Desks.power(Desks.p(1, 0, 1), 4));
        CHECK.due("(x^2 + 1)^4 and x^2 + 1", x.common(), 0);
    }

    private static void commonNear() {
        CHECK.sentence("14: in common (near ones are not)");
        SturmDesk x = Desks.both(NEAR, Desks.p(-1, 32767));
        CHECK.due("roots around 1 / 32767", x.common(), 0);
        Desks.set(x, 0, -1, Desks.HIGH);
        Desks.set(x, 1, 1, Desks.LOW);
        CHECK.due("1 / (2^31 - 1) and 1 / 2^31", x.common(), 0);
    }

    private static void commonWithGaps() {
        CHECK.sentence("14: How many roots both polynomials have in common (with gaps between the coefficients)");
        // 1 is a root of all of these; the rests of the first ones, divided by the second, skip a degree.
        int[][] zeros = {{-2, -2, 0, 0, 0, 3, 0, 0, 1}, {5, -3, 0, 0, 0, -3, 0, 0, 1}, {-8, 7, 0, 0, 0, 0, 0, 0, 1}};
        int[][] ones = {{-8, 0, 0, 0, 1, 1, 2, 4}, {-2, 0, 0, 0, -5, 1, 2, 4}, {-6, 0, 0, -1, 0, 1, 2, 4}};
        for (int[] zero : zeros) {
            for (int[] one : ones) {
                String name = java.util.Arrays.toString(zero) + " and " + java.util.Arrays.toString(one);
                CHECK.due("common of " + name, Desks.both(zero, one).common(), 1);
                CHECK.due("common of them, the other way", Desks.both(one, zero).common(), 1);
            }
        }
    }

    private static void outLowestFirst() {
        CHECK.sentence("15: Eight bytes of OUT from k on, lowest first");
        SturmDesk x = Desks.one(987654321, 1);
        CHECK.due("bytes of -987654321", x.floor(0, 0, true, 3), 13);
        CHECK.due("out(0)", x.out(0), 0x333435363738392dL);
        CHECK.due("out(1)", x.out(1), 0x3233343536373839L);
        String text = "-987654321000";
        for (int k = 0; k < text.length(); k++) {
            CHECK.due("out(" + k + ")", x.out(k), Desks.eight(text, k));
        }
    }

    private static void outBehindItsEnd() {
        CHECK.sentence("15: (0 behind its end)");
        SturmDesk x = Desks.one(-12345678, 1);
        x.floor(0, 0, true, 0);
        CHECK.due("out(0), all eight there", x.out(0), 0x3837363534333231L);
        CHECK.due("out(1), one behind", x.out(1), 0x38373635343332L);
        CHECK.due("out(7), seven behind", x.out(7), 0x38L);
        Desks.set(x, 0, -7, 1);
        x.floor(0, 0, true, 0);
        CHECK.due("out(0) of 7", x.out(0), 0x37L);
    }

    private static void outOfShorterText() {
        CHECK.sentence("15: (0 behind its end, and nothing of an earlier text)");
        SturmDesk x = Desks.one(Desks.LOW, -1);
        x.floor(0, 0, true, 90);
        Desks.set(x, 0, -45, 1);
        x.floor(0, 0, true, 0);
        CHECK.due("out(0)", x.out(0), 0x3534L);
        CHECK.due("out(1)", x.out(1), 0x35L);
        CHECK.dueThrow("out(2)", NoSuchElementException.class, () -> x.out(2));
        CHECK.dueThrow("out(50)", NoSuchElementException.class, () -> x.out(50));
    }

    private static void outNoSuchByte() {
        CHECK.sentence("15: Throws NoSuchElementException when there is no byte k.");
        SturmDesk x = Desks.one(-123456789, 1);
        for (int n = 0; n <= 20; n++) {
            int length = x.floor(0, 0, true, n);
            CHECK.due("bytes, n " + n, length, 9 + n);
            CHECK.due("the last byte, n " + n, x.out(length - 1), n == 0 ? 0x39L : 0x30L);
            int[] wrong = {Desks.LOW, -8, -1, length, length + 1, length + 8, 127, 128, Desks.HIGH};
            for (int k : wrong) {
                CHECK.dueThrow("out(" + k + "), n " + n, NoSuchElementException.class, () -> x.out(k));
            }
        }
    }

    private static void outOfLongest() {
        CHECK.sentence("15: Eight bytes of OUT from k on (of the longest text)");
        SturmDesk x = Desks.one(Desks.LOW, -1);
        String text = "-2147483648" + "0".repeat(90);
        CHECK.due("bytes", x.floor(0, 0, true, 90), text.length());
        for (int k = 0; k < text.length(); k++) {
            CHECK.due("out(" + k + ")", x.out(k), Desks.eight(text, k));
        }
        CHECK.dueThrow("out(101)", NoSuchElementException.class, () -> x.out(101));
    }
}
