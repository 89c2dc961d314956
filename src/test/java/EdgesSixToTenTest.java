import java.math.BigInteger;

/** Promises 6 to 10 (sign, between, multiple, side, floor): each boundary has a test of its own. */
public final class EdgesSixToTenTest {
    private static final Check CHECK = new Check();

    public static void main(String[] args) {
        signIsOneOfThree();
        signOfConstants();
        signAtTheEnds();
        signNearRoots();
        betweenLeavesTheFirstOut();
        betweenTakesTheSecondIn();
        betweenNotAbove();
        betweenEqualPoints();
        betweenAll();
        betweenCountsOnce();
        multipleFromOneToEight();
        multipleOfEach();
        multipleBesideUnreal();
        multipleAfterFloors();
        sideBelow();
        sideIs();
        sideAbove();
        sideOfFarRoots();
        floorOfHalves();
        floorOfWholes();
        floorBesideWholes();
        floorBesideDecimals();
        floorBesideDecimalsFarDown();
        floorLeastDigits();
        floorMostTen();
        floorMostTwo();
        floorTenOrTwo();
        floorLongest();
        floorInAnyOrder();
        floorOfNearRoots();
        floorOfRepeated();
        CHECK.end("EdgesSixToTenTest");
    }

    private static void signIsOneOfThree() {
        CHECK.sentence("6: The sign of its value at a point: -1, 0, 1.");
        SturmDesk x = Desks.both(Desks.p(Desks.LOW, 2), Desks.p(Desks.HIGH, -2));
        CHECK.due("sign of 2 x - 2^31 far below", x.sign(0, Long.MIN_VALUE, 0), -1);
        CHECK.due("sign of 2 x - 2^31 at 2^30", x.sign(0, 1 << 30, 0), 0);
        CHECK.due("sign of 2 x - 2^31 far above", x.sign(0, Long.MAX_VALUE, 0), 1);
        CHECK.due("sign of 2^31 - 1 - 2 x far below", x.sign(1, Long.MIN_VALUE, 0), 1);
        CHECK.due("sign of 2^31 - 1 - 2 x at its root", x.sign(1, Desks.HIGH, 1), 0);
        CHECK.due("sign of 2^31 - 1 - 2 x far above", x.sign(1, Long.MAX_VALUE, 0), -1);
    }

    private static void signOfConstants() {
        CHECK.sentence("6: The sign of its value at a point (a constant's is its own)");
        int[] values = {Desks.LOW, -1, 1, Desks.HIGH};
        long[] points = {Long.MIN_VALUE, -1, 0, 1, Long.MAX_VALUE};
        for (int v : values) {
            SturmDesk x = Desks.one(v);
            for (long a : points) {
                CHECK.due("sign of " + v + " at " + a, x.sign(0, a, 0), Integer.signum(v));
                CHECK.due("sign of " + v + " at " + a + " / 2^62", x.sign(0, a, 62), Integer.signum(v));
            }
        }
    }

    private static void signAtTheEnds() {
        CHECK.sentence("6: e .. 0 .. 62 (both ends, with every long)");
        int[] low = new int[9];
        java.util.Arrays.fill(low, Desks.LOW);
        SturmDesk x = Desks.one(low);
        CHECK.due("sign at the lowest long", x.sign(0, Long.MIN_VALUE, 0), -1);
        CHECK.due("sign at the highest long", x.sign(0, Long.MAX_VALUE, 0), -1);
        CHECK.due("sign at -2", x.sign(0, Long.MIN_VALUE, 62), -1);
        for (int k = 1; k < 9; k++) {
            Desks.set(x, 0, Desks.single(k, 1));
            int odd = k % 2 == 0 ? 1 : -1;
            CHECK.due("sign of x^" + k + " at the lowest long", x.sign(0, Long.MIN_VALUE, 0), odd);
            CHECK.due("sign of x^" + k + " at -1 / 2^62", x.sign(0, -1, 62), odd);
            CHECK.due("sign of x^" + k + " at 1 / 2^62", x.sign(0, 1, 62), 1);
            CHECK.due("sign of x^" + k + " at 0 / 2^62", x.sign(0, 0, 62), 0);
        }
    }

    private static void signNearRoots() {
        CHECK.sentence("6: The sign of its value at a point (0 only where it is 0)");
        SturmDesk x = Desks.one(-2, 0, 1);
        CHECK.due("sign of x^2 - 2 just below its root", x.sign(0, 6521908912666391106L, 62), -1);
        CHECK.due("sign of x^2 - 2 just above its root", x.sign(0, 6521908912666391107L, 62), 1);
        Desks.set(x, 0, Desks.power(Desks.p(-1, 1), 8));
        CHECK.due("sign of (x - 1)^8 just above 1", x.sign(0, (1L << 62) + 1, 62), 1);
        CHECK.due("sign of (x - 1)^8 at 1", x.sign(0, 1L << 62, 62), 0);
        Desks.set(x, 0, -1, 3);
        CHECK.due("sign of 3 x - 1 just below 1 / 3", x.sign(0, (1L << 62) / 3, 62), -1);
        CHECK.due("sign of 3 x - 1 just above 1 / 3", x.sign(0, (1L << 62) / 3 + 1, 62), 1);
    }

    private static void betweenLeavesTheFirstOut() {
        CHECK.sentence("7: How many roots are above the point a, e");
        SturmDesk x = Desks.one(Desks.withRoots(1, 2, 3));
        CHECK.due("from 1 to 4: not 1", x.between(0, 1, 0, 4, 0), 2);
        CHECK.due("from 1 / 2^62 less to 4: 1, too", x.between(0, (1L << 62) - 1, 62, 4, 0), 3);
        CHECK.due("from 1 / 2^62 more to 4: not 1", x.between(0, (1L << 62) + 1, 62, 4, 0), 2);
        CHECK.due("from 3 to 4", x.between(0, 3, 0, 4, 0), 0);
    }

    private static void betweenTakesTheSecondIn() {
        CHECK.sentence("7: and not above the point b, f");
        SturmDesk x = Desks.one(Desks.withRoots(-1, 0, 1));
        CHECK.due("from -4 to 1: 1, too", x.between(0, -4, 0, 1, 0), 3);
        CHECK.due("from -4 to 1 / 2^62 less than 1", x.between(0, -4, 0, (1L << 62) - 1, 62), 2);
        CHECK.due("from -4 to -1", x.between(0, -4, 0, -1, 0), 1);
        CHECK.due("from -1 to 0", x.between(0, -1, 0, 0, 0), 1);
        CHECK.due("from -1 to 1", x.between(0, -1, 0, 1, 0), 2);
    }

    private static void betweenNotAbove() {
        CHECK.sentence("7: 0 if the second point is not above the first");
        SturmDesk x = Desks.one(Desks.withRoots(1, 2, 3));
        CHECK.due("from 4 to 0", x.between(0, 4, 0, 0, 0), 0);
        CHECK.due("from 2 to 1", x.between(0, 2, 0, 1, 0), 0);
        CHECK.due("from 1 to 1 / 2^62 less", x.between(0, 1, 0, (1L << 62) - 1, 62), 0);
        CHECK.due("from end to end, the wrong way", x.between(0, Long.MAX_VALUE, 0, Long.MIN_VALUE, 0), 0);
        CHECK.due("from 5 / 2 to 9 / 4", x.between(0, 5, 1, 9, 2), 0);
    }

    private static void betweenEqualPoints() {
        CHECK.sentence("7: 0 if the second point is not above the first (but is it)");
        SturmDesk x = Desks.one(Desks.withRoots(-2, 1, 2));
        CHECK.due("from 2 to 2", x.between(0, 2, 0, 2, 0), 0);
        CHECK.due("from 2 to 4 / 2", x.between(0, 2, 0, 4, 1), 0);
        CHECK.due("from 2^62 / 2^62 to 1", x.between(0, 1L << 62, 62, 1, 0), 0);
        CHECK.due("from -2 to the lowest long / 2^62", x.between(0, -2, 0, Long.MIN_VALUE, 62), 0);
        CHECK.due("from 0 to 0 / 2^62", x.between(0, 0, 0, 0, 62), 0);
    }

    private static void betweenAll() {
        CHECK.sentence("7: How many roots (none and all)");
        SturmDesk x = Desks.one(Desks.withRoots(-4, -3, -2, -1, 0, 1, 2, 3));
        CHECK.due("from end to end", x.between(0, Long.MIN_VALUE, 0, Long.MAX_VALUE, 0), 8);
        CHECK.due("below all", x.between(0, Long.MIN_VALUE, 0, -5, 0), 0);
        CHECK.due("above all", x.between(0, 3, 0, Long.MAX_VALUE, 0), 0);
        CHECK.due("from one root to the next but one", x.between(0, -2, 0, 0, 0), 2);
        Desks.set(x, 0, Desks.HIGH);
        CHECK.due("of a constant", x.between(0, Long.MIN_VALUE, 0, Long.MAX_VALUE, 0), 0);
        Desks.set(x, 0, 1, 0, 1);
        CHECK.due("of x^2 + 1", x.between(0, Long.MIN_VALUE, 0, Long.MAX_VALUE, 0), 0);
    }

    private static void betweenCountsOnce() {
        CHECK.sentence("7: How many roots (the different ones)");
        SturmDesk x = Desks.one(Desks.withRoots(0, 0, 0, 2, 2, 5));
        CHECK.due("from -1 to 5", x.between(0, -1, 0, 5, 0), 3);
        CHECK.due("from -1 to 0", x.between(0, -1, 0, 0, 0), 1);
        CHECK.due("from 0 to 2", x.between(0, 0, 0, 2, 0), 1);
        CHECK.due("from 2 to 9 / 2", x.between(0, 2, 0, 9, 1), 0);
    }

    private static void multipleFromOneToEight() {
        CHECK.sentence("8: The multiplicity of root i. (from 1 to 8)");
        for (int n = 1; n <= 8; n++) {
            SturmDesk x = Desks.one(Desks.single(n, Desks.LOW));
            CHECK.due("multiple of 0 in -2^31 x^" + n, x.multiple(0, 0), n);
            Desks.set(x, 0, Desks.power(Desks.p(-1, 3), n));
            CHECK.due("multiple of 1 / 3 in (3 x - 1)^" + n, x.multiple(0, 0), n);
        }
        for (int n = 1; n <= 4; n++) {
            SturmDesk x = Desks.one(Desks.power(Desks.p(-2, 0, 1), n));
            CHECK.due("multiple of root 0 in (x^2 - 2)^" + n, x.multiple(0, 0), n);
            CHECK.due("multiple of root 1 in (x^2 - 2)^" + n, x.multiple(0, 1), n);
        }
    }

    private static void multipleOfEach() {
        CHECK.sentence("8: The multiplicity of root i. (each root has its own)");
        SturmDesk x = Desks.both(Desks.withRoots(-7, -7, 0, 3, 3, 3, 8, 8), Desks.withRoots(1, 2));
        int[] want = {2, 1, 3, 2};
        for (int i = 0; i < want.length; i++) {
            CHECK.due("multiple of root " + i, x.multiple(0, i), want[i]);
        }
        CHECK.due("multiple of root 0 of the other", x.multiple(1, 0), 1);
        CHECK.due("multiple of root 1 of the other", x.multiple(1, 1), 1);
        Desks.set(x, 0, Desks.product(Desks.power(Desks.p(-2, 0, 1), 2), Desks.p(-3, 2)));
        CHECK.due("multiple of the lower root of 2", x.multiple(0, 0), 2);
        CHECK.due("multiple of the upper root of 2", x.multiple(0, 1), 2);
        CHECK.due("multiple of 3 / 2", x.multiple(0, 2), 1);
    }

    private static void multipleBesideUnreal() {
        CHECK.sentence("8: The multiplicity of root i. (those that are no real numbers are no roots)");
        SturmDesk x = Desks.one(Desks.product(Desks.power(Desks.p(1, 0, 1), 3), Desks.withRoots(0)));
        CHECK.due("multiple of 0 in x (x^2 + 1)^3", x.multiple(0, 0), 1);
        Desks.set(x, 0, Desks.product(Desks.power(Desks.p(1, 0, 1), 3), Desks.withRoots(4, 4)));
        CHECK.due("multiple of 4 in (x - 4)^2 (x^2 + 1)^3", x.multiple(0, 0), 2);
    }

    private static void multipleAfterFloors() {
        CHECK.sentence("8: The multiplicity of root i. (whatever was asked before)");
        for (int n = 0; n <= 12; n++) {
            SturmDesk x = Desks.one(Desks.product(Desks.power(Desks.p(-1, 2), 2), Desks.power(Desks.p(5, 8), 3)));
            for (int t = 0; t <= n; t++) {
                x.floor(0, 0, false, t);
                x.floor(0, 1, false, t);
            }
            CHECK.due("multiple of -5 / 8 after floors up to " + n, x.multiple(0, 0), 3);
            CHECK.due("multiple of 1 / 2 after floors up to " + n, x.multiple(0, 1), 2);
        }
    }

    private static void sideBelow() {
        CHECK.sentence("9: -1 ..: root i lies below the point");
        SturmDesk x = Desks.one(-1, 3);
        CHECK.due("1 / 3 and the next point above it", x.side(0, 0, (1L << 62) / 3 + 1, 62), -1);
        CHECK.due("1 / 3 and the highest long", x.side(0, 0, Long.MAX_VALUE, 0), -1);
        Desks.set(x, 0, 0, 1);
        CHECK.due("0 and the least point above it", x.side(0, 0, 1, 62), -1);
        Desks.set(x, 0, Desks.withRoots(1, 2));
        CHECK.due("root 0 when the point is root 1", x.side(0, 0, 2, 0), -1);
    }

    private static void sideIs() {
        CHECK.sentence("9: 0 ..: is it");
        SturmDesk x = Desks.one(Desks.withRoots(-3, 0, 0, 2, 2, 2));
        CHECK.due("-3", x.side(0, 0, -3, 0), 0);
        CHECK.due("-3 as -12 / 4", x.side(0, 0, -12, 2), 0);
        CHECK.due("0, twice a root", x.side(0, 1, 0, 62), 0);
        CHECK.due("2, three times a root", x.side(0, 2, 1L << 61, 60), 0);
        Desks.set(x, 0, -1, 0, 1 << 30);
        CHECK.due("-1 / 2^15", x.side(0, 0, -1, 15), 0);
        CHECK.due("1 / 2^15 as 2^47 / 2^62", x.side(0, 1, 1L << 47, 62), 0);
    }

    private static void sideAbove() {
        CHECK.sentence("9: 1: lies above it");
        SturmDesk x = Desks.one(1, 3);
        CHECK.due("-1 / 3 and the next point below it", x.side(0, 0, -(1L << 62) / 3 - 1, 62), 1);
        CHECK.due("-1 / 3 and the lowest long", x.side(0, 0, Long.MIN_VALUE, 0), 1);
        Desks.set(x, 0, 0, 1);
        CHECK.due("0 and the highest point below it", x.side(0, 0, -1, 62), 1);
        Desks.set(x, 0, Desks.withRoots(1, 2));
        CHECK.due("root 1 when the point is root 0", x.side(0, 1, 1, 0), 1);
    }

    private static void sideOfFarRoots() {
        CHECK.sentence("9: root i (the farthest and the nearest to 0)");
        SturmDesk x = Desks.one(Desks.LOW, -1);
        CHECK.due("-2^31", x.side(0, 0, Desks.LOW, 0), 0);
        CHECK.due("-2^31 and one below", x.side(0, 0, Desks.LOW - 1L, 0), 1);
        Desks.set(x, 0, 1, Desks.LOW);
        CHECK.due("1 / 2^31", x.side(0, 0, 1, 31), 0);
        CHECK.due("1 / 2^31 and 1 / 2^62 more", x.side(0, 0, (1L << 31) + 1, 62), -1);
        Desks.set(x, 0, Desks.withRoots(0, 1, 2, 3, 4, 5, 6, 7));
        for (int i = 0; i < 8; i++) {
            CHECK.due("root " + i + " and the point before", x.side(0, i, 2 * i - 1, 1), 1);
            CHECK.due("root " + i + " and the point behind", x.side(0, i, 2 * i + 1, 1), -1);
        }
    }

    private static void floorOfHalves() {
        CHECK.sentence("10: the greatest whole number that is not above (of -2.5: -3)");
        SturmDesk x = Desks.both(Desks.p(5, 2), Desks.p(-5, 2));
        CHECK.dueText("-2.5", Desks.floor(x, 0, 0, true, 0), "-3");
        CHECK.dueText("-2.5, not ten", Desks.floor(x, 0, 0, false, 0), "-3");
        CHECK.dueText("2.5", Desks.floor(x, 1, 0, true, 0), "2");
        CHECK.dueText("2.5, not ten", Desks.floor(x, 1, 0, false, 0), "2");
        Desks.set(x, 0, 25, 20);
        CHECK.dueText("-1.25 times 10", Desks.floor(x, 0, 0, true, 1), "-13");
        CHECK.dueText("-1.25 times 2", Desks.floor(x, 0, 0, false, 1), "-3");
    }

    private static void floorOfWholes() {
        CHECK.sentence("10: that is not above (the number itself, if it is whole)");
        int[] wholes = {Desks.LOW + 1, -1000, -10, -1, 0, 1, 10, 1000, Desks.HIGH};
        for (int v : wholes) {
            SturmDesk x = Desks.one(-v, 1);
            String zeros = v == 0 ? "" : "0".repeat(90);
            CHECK.dueText(v + " times 10^0", Desks.floor(x, 0, 0, true, 0), "" + v);
            CHECK.dueText(v + " times 2^0", Desks.floor(x, 0, 0, false, 0), "" + v);
            CHECK.dueText(v + " times 10^90", Desks.floor(x, 0, 0, true, 90), v + zeros);
            CHECK.dueText(v + " times 2^300", Desks.floor(x, 0, 0, false, 300),
                    BigInteger.valueOf(v).shiftLeft(300).toString());
        }
        SturmDesk x = Desks.both(Desks.p(1, 5), Desks.p(1, 8));
        CHECK.dueText("-1 / 5 times 10", Desks.floor(x, 0, 0, true, 1), "-2");
        CHECK.dueText("-1 / 8 times 2^3", Desks.floor(x, 1, 0, false, 3), "-1");
        CHECK.dueText("-1 / 8 times 10^3", Desks.floor(x, 1, 0, true, 3), "-125");
    }

    private static void floorBesideWholes() {
        CHECK.sentence("10: the greatest whole number that is not above (just below and just above one)");
        SturmDesk x = Desks.one(-Desks.HIGH, 1 << 30);
        CHECK.dueText("just below 2", Desks.floor(x, 0, 0, true, 0), "1");
        CHECK.dueText("just below 2, times 2^29", Desks.floor(x, 0, 0, false, 29), "1073741823");
        Desks.set(x, 0, Desks.HIGH, 1 << 30);
        CHECK.dueText("just above -2", Desks.floor(x, 0, 0, true, 0), "-2");
        Desks.set(x, 0, -1000000001, 1000000000);
        CHECK.dueText("just above 1", Desks.floor(x, 0, 0, true, 8), "100000000");
        CHECK.dueText("just above 1, times 10^9", Desks.floor(x, 0, 0, true, 9), "1000000001");
        Desks.set(x, 0, 1000000001, 1000000000);
        CHECK.dueText("just below -1", Desks.floor(x, 0, 0, true, 8), "-100000001");
        CHECK.dueText("just below -1, times 10^9", Desks.floor(x, 0, 0, true, 9), "-1000000001");
        // (10^4 x)^2 - 10^8 - 1: just above 1 and just below -1, but not fractions.
        Desks.set(x, 0, -100000001, 0, 100000000);
        CHECK.dueText("above 1, irrational", Desks.floor(x, 0, 1, true, 8), "100000000");
        CHECK.dueText("below -1, irrational", Desks.floor(x, 0, 0, true, 8), "-100000001");
    }

    private static void floorBesideDecimals() {
        CHECK.sentence("10: not above .. root i times 10 to the n (just below, at and just above 3 / 10)");
        int[] overs = {299999999, 300000000, 300000001};
        String[] firsts = {"2", "3", "3"};
        String[] below = {"-3", "-3", "-4"};
        for (int t = 0; t < 3; t++) {
            SturmDesk x = Desks.both(Desks.p(-overs[t], 1000000000), Desks.p(overs[t], 1000000000));
            CHECK.dueText(overs[t] + " / 10^9, n 1", Desks.floor(x, 0, 0, true, 1), firsts[t]);
            CHECK.dueText(overs[t] + " / 10^9, n 9", Desks.floor(x, 0, 0, true, 9), "" + overs[t]);
            CHECK.dueText("-" + overs[t] + " / 10^9, n 1", Desks.floor(x, 1, 0, true, 1), below[t]);
            CHECK.dueText("-" + overs[t] + " / 10^9, n 9", Desks.floor(x, 1, 0, true, 9), "-" + overs[t]);
        }
        SturmDesk x = Desks.both(Desks.p(-89999999, 0, 1000000000), Desks.p(-90000001, 0, 1000000000));
        CHECK.dueText("irrational, just below 3 / 10", Desks.floor(x, 0, 1, true, 1), "2");
        CHECK.dueText("irrational, just above -3 / 10", Desks.floor(x, 0, 0, true, 1), "-3");
        CHECK.dueText("irrational, just above 3 / 10", Desks.floor(x, 1, 1, true, 1), "3");
        CHECK.dueText("irrational, just below -3 / 10", Desks.floor(x, 1, 0, true, 1), "-4");
    }

    private static void floorBesideDecimalsFarDown() {
        CHECK.sentence("10: not above .. root i times 10 to the n (7 / 10^21 below and above 1 / 10^4)");
        // x^8 - 2 (10^4 x - 1)^2
        for (int n = 4; n <= 20; n++) {
            SturmDesk x = Desks.one(-2, 40000, -200000000, 0, 0, 0, 0, 0, 1);
            BigInteger whole = BigInteger.TEN.pow(n - 4);
            String below = whole.subtract(BigInteger.ONE).toString();
            CHECK.dueText("root 1, n " + n, Desks.floor(x, 0, 1, true, n), below);
            CHECK.dueText("root 2, n " + n, Desks.floor(x, 0, 2, true, n), whole.toString());
        }
    }

    private static void floorLeastDigits() {
        CHECK.sentence("10: n .. 0 .. 90 (0 .. 300 if not ten): n 0");
        SturmDesk x = Desks.one(-99, 0, 1);
        CHECK.dueText("the root of 99, ten", Desks.floor(x, 0, 1, true, 0), "9");
        CHECK.dueText("the root of 99, not ten", Desks.floor(x, 0, 1, false, 0), "9");
        CHECK.dueText("the other root, ten", Desks.floor(x, 0, 0, true, 0), "-10");
        CHECK.dueText("the other root, not ten", Desks.floor(x, 0, 0, false, 0), "-10");
    }

    private static void floorMostTen() {
        CHECK.sentence("10: n .. 0 .. 90: n 90 and before");
        for (int n = 0; n <= 90; n++) {
            SturmDesk x = Desks.both(Desks.p(-2, 0, 1), Desks.p(-1, 7));
            BigInteger root = BigInteger.TWO.multiply(BigInteger.TEN.pow(2 * n)).sqrt();
            CHECK.dueText("the root of 2, n " + n, Desks.floor(x, 0, 1, true, n), root.toString());
            CHECK.dueText("the lower root, n " + n, Desks.floor(x, 0, 0, true, n), root.not().toString());
            String seventh = BigInteger.TEN.pow(n).divide(BigInteger.valueOf(7)).toString();
            CHECK.dueText("1 / 7, n " + n, Desks.floor(x, 1, 0, true, n), seventh);
        }
    }

    private static void floorMostTwo() {
        CHECK.sentence("10: n .. 0 .. 300 if not ten: n 300 and before");
        for (int n = 0; n <= 300; n++) {
            SturmDesk x = Desks.one(-3, 0, 1);
            BigInteger root = BigInteger.valueOf(3).shiftLeft(2 * n).sqrt();
            CHECK.dueText("the root of 3, n " + n, Desks.floor(x, 0, 1, false, n), root.toString());
            CHECK.dueText("the lower root, n " + n, Desks.floor(x, 0, 0, false, n), root.not().toString());
        }
    }

    private static void floorTenOrTwo() {
        CHECK.sentence("10: times 10 to the n (or, if not ten, 2 to the n)");
        SturmDesk x = Desks.one(-3, 1);
        CHECK.dueText("3 times 10^5", Desks.floor(x, 0, 0, true, 5), "300000");
        CHECK.dueText("3 times 2^5", Desks.floor(x, 0, 0, false, 5), "96");
        CHECK.dueText("3 times 2^91", Desks.floor(x, 0, 0, false, 91), BigInteger.valueOf(3).shiftLeft(91).toString());
    }

    private static void floorLongest() {
        CHECK.sentence("10: how many bytes (from 1 to 101)");
        SturmDesk x = Desks.both(Desks.p(Desks.LOW, -1), Desks.p(0, 1));
        CHECK.due("bytes of -2^31 times 10^90", x.floor(0, 0, true, 90), 101);
        CHECK.dueText("OUT", Desks.out(x), "-2147483648" + "0".repeat(90));
        BigInteger far = BigInteger.ONE.shiftLeft(331).negate();
        CHECK.due("bytes of -2^31 times 2^300", x.floor(0, 0, false, 300), far.toString().length());
        CHECK.dueText("OUT", Desks.out(x), far.toString());
        CHECK.due("bytes of 0", x.floor(1, 0, true, 90), 1);
        CHECK.dueText("OUT", Desks.out(x), "0");
        // x^8 + 2^31 (1 - x + x^2 - ..): a root a little above -(2^31 + 1).
        int[] c = {Desks.LOW, Desks.HIGH, Desks.LOW, Desks.HIGH, Desks.LOW, Desks.HIGH, Desks.LOW, Desks.HIGH, 1};
        Desks.set(x, 0, c);
        CHECK.dueText("the whole part of a far root", Desks.floor(x, 0, 0, true, 0), "-2147483649");
        CHECK.due("bytes of it times 10^90", x.floor(0, 0, true, 90), 101);
    }

    private static void floorInAnyOrder() {
        CHECK.sentence("10: OUT becomes the text .. of root i times 10 to the n (whatever was asked before)");
        SturmDesk x = Desks.one(-5, 0, 1);
        int[] asked = {90, 0, 45, 1, 89, 7, 90, 0};
        for (int n : asked) {
            BigInteger root = BigInteger.valueOf(5).multiply(BigInteger.TEN.pow(2 * n)).sqrt();
            CHECK.dueText("the root of 5, n " + n, Desks.floor(x, 0, 1, true, n), root.toString());
            BigInteger other = BigInteger.valueOf(5).shiftLeft(6 * n).sqrt();
            CHECK.dueText("the root of 5, not ten, n " + 3 * n, Desks.floor(x, 0, 1, false, 3 * n), other.toString());
        }
    }

    private static void floorOfNearRoots() {
        CHECK.sentence("10: root i (and not one that is near to it)");
        // x^8 - 2 (32767 x - 1)^2: its roots 1 and 2 differ from the 75th binary place on.
        SturmDesk x = Desks.one(-2, 131068, -2147352578, 0, 0, 0, 0, 0, 1);
        Oracle o = oracle(-2, 131068, -2147352578, 0, 0, 0, 0, 0, 1);
        int[] asked = {74, 75, 76, 300};
        for (int n : asked) {
            for (int i = 1; i <= 2; i++) {
                String want = o.floor(i, false, n).toString();
                CHECK.dueText("root " + i + ", n " + n, Desks.floor(x, 0, i, false, n), want);
            }
        }
        CHECK.dueText("root 1, ten", Desks.floor(x, 0, 1, true, 90), o.floor(1, true, 90).toString());
        CHECK.dueText("root 2, ten", Desks.floor(x, 0, 2, true, 90), o.floor(2, true, 90).toString());
    }

    private static Oracle oracle(int... c) {
        BigInteger[] wide = new BigInteger[c.length];
        for (int k = 0; k < c.length; k++) {
            wide[k] = BigInteger.valueOf(c[k]);
        }
        return new Oracle(wide);
    }

    private static void floorOfRepeated() {
        CHECK.sentence("10: root i (of a multiplicity up to 8)");
        for (int n = 1; n <= 8; n++) {
            SturmDesk x = Desks.one(Desks.power(Desks.p(-1, 3), n));
            CHECK.dueText("1 / 3, " + n + " times a root", Desks.floor(x, 0, 0, true, 90), "3".repeat(90));
            Desks.set(x, 0, Desks.power(Desks.p(5, 4), n));
            CHECK.dueText("-5 / 4, " + n + " times a root", Desks.floor(x, 0, 0, true, 0), "-2");
        }
    }
}
