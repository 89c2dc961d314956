import java.math.BigInteger;
import java.util.NoSuchElementException;

/** The sentences of 'What it is' and 'Terms' that name a boundary, each with a test of its own. */
public final class TermsTest {
    private static final Check CHECK = new Check();

    public static void main(String[] args) {
        atMostCalls();
        atMostCallsThatThrow();
        allZeroAtFirst();
        eachAnInt();
        valueIsTheSum();
        allZeroIsNone();
        oneCoefficientIsNotNone();
        degreeIsTheHighest();
        rootsAreDifferent();
        rootsAreReal();
        rootsRise();
        multiplicityInOrder();
        pointIsOverPowerOfTwo();
        pointsOfAnyLong();
        textOfZero();
        textBelowZero();
        textFirstDigit();
        memoryOfOneObject();
        CHECK.end("TermsTest");
    }

    private static void atMostCalls() {
        CHECK.sentence("An object is used for at most 512 calls after it has been made");
        SturmDesk x = new SturmDesk();
        x.put(0, 2, 1);
        x.put(1, 8, 1);
        for (int calls = 2; calls < 512; calls += 6) {
            int m = 2 + calls % 97;
            x.put(0, 0, -m);
            x.put(1, 0, -m);
            CHECK.due("call " + (calls + 3), x.order(1, 1), 1);
            CHECK.due("call " + (calls + 4), x.signAt(1, 0), -1);
            String want = BigInteger.valueOf(m).multiply(BigInteger.TEN.pow(180)).sqrt().toString();
            CHECK.due("call " + (calls + 5), x.floor(0, 1, true, 90), want.length());
            CHECK.due("call " + (calls + 6), x.out(8), Desks.eight(want, 8));
        }
    }

    private static void atMostCallsThatThrow() {
        CHECK.sentence("An object is used for at most 512 calls (calls that throw are calls, too)");
        SturmDesk x = new SturmDesk();
        x.put(0, 1, 3);
        x.put(0, 0, -1);
        for (int calls = 2; calls < 510; calls += 2) {
            CHECK.dueThrow("call " + (calls + 1), IllegalArgumentException.class, () -> x.floor(0, 0, true, 91));
            CHECK.dueThrow("call " + (calls + 2), NoSuchElementException.class, () -> x.out(0));
        }
        CHECK.due("call 511", x.floor(0, 0, true, 3), 3);
        CHECK.due("call 512", x.out(0), Desks.eight("333", 0));
    }

    private static void allZeroAtFirst() {
        CHECK.sentence("coefficients 0 .. 8, .. all 0 at first");
        for (int polynomial = 0; polynomial < 2; polynomial++) {
            for (int k = 0; k < 9; k++) {
                SturmDesk x = new SturmDesk();
                x.put(polynomial, k, 5);
                String name = "of 5 x^" + k + " in polynomial " + polynomial;
                CHECK.due("degree " + name, x.degree(polynomial), k);
                CHECK.due("roots " + name, x.roots(polynomial), k == 0 ? 0 : 1);
                if (k > 0) {
                    CHECK.due("side " + name, x.side(polynomial, 0, 0, 0), 0);
                    CHECK.due("multiple " + name, x.multiple(polynomial, 0), k);
                }
            }
        }
    }

    private static void eachAnInt() {
        CHECK.sentence("coefficients 0 .. 8, each an int");
        for (int k = 0; k < 9; k++) {
            for (int polynomial = 0; polynomial < 2; polynomial++) {
                String name = " in x^" + k + " of polynomial " + polynomial;
                SturmDesk x = new SturmDesk();
                x.put(polynomial, k, Desks.HIGH);
                CHECK.due("the highest int" + name,
                        Desks.isCoefficient(x, polynomial, k, Desks.HIGH) ? 1 : 0, 1);
                x = new SturmDesk();
                x.put(polynomial, k, Desks.LOW);
                // The root that is not 0 is 2 to the 31, or 1 over it.
                x.put(polynomial, k < 8 ? k + 1 : 7, 1);
                CHECK.due("the lowest int" + name,
                        x.side(polynomial, x.roots(polynomial) - 1, k < 8 ? 1L << 31 : 1, k < 8 ? 0 : 31), 0);
            }
        }
    }

    private static void valueIsTheSum() {
        CHECK.sentence("the value at x is the sum of coefficient k times x to the k");
        SturmDesk x = Desks.one(7, 1, 1, 1, 1, 1, 1, 1, 1);
        CHECK.due("the value at 0 is coefficient 0", x.sign(0, 0, 0), 1);
        x.put(0, 0, -8);
        CHECK.due("the value at 1 is the sum of all", x.sign(0, 1, 0), 0);
        x.put(0, 0, 0);
        CHECK.due("the value at -1 is the sum with signs in turn", x.sign(0, -1, 0), 0);
        x.put(0, 0, -510);
        CHECK.due("the value at 2", x.sign(0, 2, 0), 0);
        x.put(0, 0, -170);
        CHECK.due("the value at -2", x.sign(0, -2, 0), 0);
        Desks.set(x, 0, -255, 256, 256, 256, 256, 256, 256, 256, 256);
        CHECK.due("the value at 1 / 2", x.sign(0, 1, 1), 0);
    }

    private static void allZeroIsNone() {
        CHECK.sentence("One with all coefficients 0 is NONE.");
        for (int k = 0; k < 9; k++) {
            SturmDesk x = new SturmDesk();
            x.put(0, k, 0);
            CHECK.dueThrow("roots after put of 0", IllegalStateException.class, () -> x.roots(0));
            x.put(0, k, -3);
            x.roots(0);
            x.put(0, k, 0);
            String again = " after coefficient " + k + " is 0 again";
            CHECK.dueThrow("roots" + again, IllegalStateException.class, () -> x.roots(0));
            CHECK.due("degree" + again, x.degree(0), -1);
        }
    }

    private static void oneCoefficientIsNotNone() {
        CHECK.sentence("One with all coefficients 0 is NONE. (not one with all but one)");
        int[] values = {Desks.LOW, -1, 1, Desks.HIGH};
        for (int k = 0; k < 9; k++) {
            for (int v : values) {
                SturmDesk x = Desks.one(Desks.single(k, v));
                CHECK.due("roots of " + v + " x^" + k, x.roots(0), k == 0 ? 0 : 1);
            }
        }
    }

    private static void degreeIsTheHighest() {
        CHECK.sentence("DEGREE: the highest number of a coefficient that is not 0.");
        SturmDesk x = Desks.one(1, 1, 1, 1, 1, 1, 1, 1, 1);
        for (int k = 8; k >= 0; k--) {
            CHECK.due("degree with all up to " + k, x.degree(0), k);
            x.put(0, k, 0);
        }
        Desks.set(x, 0, 0, 0, 5, 0, 0, -1);
        CHECK.due("degree with gaps", x.degree(0), 5);
        x.put(0, 5, 0);
        CHECK.due("degree falls over a gap", x.degree(0), 2);
        x.put(0, 0, 9);
        CHECK.due("a lower coefficient does not count", x.degree(0), 2);
    }

    private static void rootsAreDifferent() {
        CHECK.sentence("ROOTS are the different real numbers at which a polynomial .. is 0");
        SturmDesk x = Desks.one(Desks.power(Desks.withRoots(3), 8));
        CHECK.due("roots of (x - 3)^8", x.roots(0), 1);
        Desks.set(x, 0, Desks.power(Desks.withRoots(-1, 2), 4));
        CHECK.due("roots of (x + 1)^4 (x - 2)^4", x.roots(0), 2);
        Desks.set(x, 0, Desks.power(Desks.p(-2, 0, 1), 4));
        CHECK.due("roots of (x^2 - 2)^4", x.roots(0), 2);
        CHECK.dueThrow("root 2 of (x^2 - 2)^4", NoSuchElementException.class, () -> x.multiple(0, 2));
    }

    private static void rootsAreReal() {
        CHECK.sentence("ROOTS are the different real numbers");
        SturmDesk x = Desks.one(1, 0, 0, 0, 0, 0, 0, 0, 1);
        CHECK.due("roots of x^8 + 1", x.roots(0), 0);
        Desks.set(x, 0, -1, 0, 0, 0, 0, 0, 0, 0, 1);
        CHECK.due("roots of x^8 - 1", x.roots(0), 2);
        Desks.set(x, 0, 0, 1, 0, 0, 0, 0, 0, 1);
        CHECK.due("roots of x^7 + x", x.roots(0), 1);
        Desks.set(x, 0, 1, -2, 2);
        CHECK.due("roots of 2 x^2 - 2 x + 1", x.roots(0), 0);
    }

    private static void rootsRise() {
        CHECK.sentence("numbered 0, 1, .. in rising order");
        int[] roots = {-9, -4, -3, -1, 0, 2, 5, 7};
        SturmDesk x = Desks.one(Desks.withRoots(7, -3, 0, 5, -9, 2, -1, -4));
        CHECK.due("roots", x.roots(0), roots.length);
        for (int i = 7; i >= 0; i--) {
            CHECK.dueText("root " + i, Desks.floor(x, 0, i, true, 0), Integer.toString(roots[i]));
        }
        Desks.set(x, 0, Desks.product(Desks.withRoots(-1, 0, 1), Desks.p(3)));
        x.put(0, 3, -3);
        x.put(0, 1, 3);
        for (int i = 0; i < 3; i++) {
            CHECK.due("root " + i + " when the highest coefficient is below 0", x.side(0, i, i - 1, 0), 0);
        }
    }

    private static void multiplicityInOrder() {
        CHECK.sentence("how many of the polynomial and its derivatives, in order, are 0 there");
        SturmDesk x = Desks.one(0, 1, 0, 1);
        CHECK.due("the second derivative of x^3 + x is 0 at 0, the first is not", x.multiple(0, 0), 1);
        Desks.set(x, 0, 0, 0, 1, 0, 0, 0, 0, 0, 1);
        CHECK.due("x^8 + x^2 at 0", x.multiple(0, 0), 2);
        Desks.set(x, 0, 0, 0, 0, 0, 0, 0, 0, 4, 1);
        CHECK.due("x^8 + 4 x^7 at -4", x.multiple(0, 0), 1);
        CHECK.due("x^8 + 4 x^7 at 0", x.multiple(0, 1), 7);
        Desks.set(x, 0, Desks.power(Desks.p(-1, 3), 8));
        CHECK.due("(3 x - 1)^8 at 1 / 3", x.multiple(0, 0), 8);
    }

    private static void pointIsOverPowerOfTwo() {
        CHECK.sentence("A POINT a, e (e 0 .. 62) is a / 2 to the e.");
        for (int e = 0; e <= 62; e++) {
            SturmDesk x = Desks.one(-1, 1);
            CHECK.due("sign of x - 1 at 2^" + e + " / 2^" + e, x.sign(0, 1L << e, e), 0);
            CHECK.due("sign of x - 1 just below", x.sign(0, (1L << e) - 1, e), -1);
            CHECK.due("sign of x - 1 just above", x.sign(0, (1L << e) + 1, e), 1);
            CHECK.due("side of 1 to the point just above", x.side(0, 0, (1L << e) + 1, e), -1);
            CHECK.due("between of the points around 1", x.between(0, (1L << e) - 1, e, 1L << e, e), 1);
        }
        SturmDesk x = Desks.one(1, 2);
        CHECK.due("side of -1 / 2 to -1, 1", x.side(0, 0, -1, 1), 0);
        CHECK.due("side of -1 / 2 to -2, 2", x.side(0, 0, -2, 2), 0);
    }

    private static void pointsOfAnyLong() {
        CHECK.sentence("A POINT a, e .. is a / 2 to the e (a any long)");
        SturmDesk x = Desks.one(2, 1);
        CHECK.due("the lowest long over 2^62 is -2", x.sign(0, Long.MIN_VALUE, 62), 0);
        CHECK.due("side of -2 to it", x.side(0, 0, Long.MIN_VALUE, 62), 0);
        CHECK.due("one above it", x.sign(0, Long.MIN_VALUE + 1, 62), 1);
        x.put(0, 0, -2);
        CHECK.due("the highest long over 2^62 is just below 2", x.sign(0, Long.MAX_VALUE, 62), -1);
        CHECK.due("the lowest long", x.sign(0, Long.MIN_VALUE, 0), -1);
        CHECK.due("the highest long", x.sign(0, Long.MAX_VALUE, 0), 1);
        CHECK.due("from end to end", x.between(0, Long.MIN_VALUE, 0, Long.MAX_VALUE, 0), 1);
    }

    private static void textOfZero() {
        CHECK.sentence("its decimal digits, the first not 0 unless it is the only one (0)");
        SturmDesk x = Desks.one(0, 1);
        CHECK.dueText("0", Desks.floor(x, 0, 0, true, 0), "0");
        CHECK.dueText("0 times 10^90", Desks.floor(x, 0, 0, true, 90), "0");
        CHECK.dueText("0 times 2^300", Desks.floor(x, 0, 0, false, 300), "0");
        Desks.set(x, 0, -1, Desks.HIGH);
        CHECK.dueText("just above 0", Desks.floor(x, 0, 0, true, 9), "0");
    }

    private static void textBelowZero() {
        CHECK.sentence("A TEXT is - if the number is below 0, and its decimal digits");
        SturmDesk x = Desks.one(1, Desks.HIGH);
        CHECK.dueText("just below 0", Desks.floor(x, 0, 0, true, 0), "-1");
        CHECK.dueText("just below 0, times 2^30", Desks.floor(x, 0, 0, false, 30), "-1");
        Desks.set(x, 0, 10, 1);
        CHECK.dueText("-10", Desks.floor(x, 0, 0, true, 0), "-10");
        Desks.set(x, 0, -10, 1);
        CHECK.dueText("10 has no sign", Desks.floor(x, 0, 0, true, 0), "10");
    }

    private static void textFirstDigit() {
        CHECK.sentence("its decimal digits, the first not 0");
        int[] wholes = {1, 9, 10, 99, 100, 999999999, 1000000000, 1000000001, 2000000000, Desks.HIGH};
        for (int v : wholes) {
            SturmDesk x = Desks.one(-v, 1);
            CHECK.dueText(v + "", Desks.floor(x, 0, 0, true, 0), Integer.toString(v));
            CHECK.dueText(v + " times 10^9", Desks.floor(x, 0, 0, true, 9), v + "000000000");
            CHECK.dueText(v + " times 10^90", Desks.floor(x, 0, 0, true, 90), v + "0".repeat(90));
            x.put(0, 0, v);
            CHECK.dueText("-" + v, Desks.floor(x, 0, 0, true, 0), "-" + v);
            CHECK.dueText("-" + v + " times 10^8", Desks.floor(x, 0, 0, true, 8), "-" + v + "00000000");
        }
    }

    private static void memoryOfOneObject() {
        CHECK.sentence("All memory is the class's own, made once. (and each object has its own)");
        SturmDesk a = Desks.both(Desks.p(-2, 0, 1), Desks.p(-3, 1));
        a.floor(0, 1, true, 3);
        SturmDesk b = new SturmDesk();
        CHECK.due("degree in another object", b.degree(0), -1);
        CHECK.dueThrow("out in another object", NoSuchElementException.class, () -> b.out(0));
        Desks.set(b, 0, -7, 1);
        b.floor(0, 0, true, 0);
        CHECK.dueText("OUT of the first object", Desks.out(a), "1414");
        CHECK.due("degree in the first object", a.degree(0), 2);
        CHECK.dueText("floor in the first object", Desks.floor(a, 0, 0, true, 3), "-1415");
        CHECK.dueText("OUT of the other object", Desks.out(b), "7");
    }
}
