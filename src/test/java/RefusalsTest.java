/**
 * Every call with every kind of wrong argument, in every kind of state: which exception is thrown
 * ("Of several exceptions that hold the one listed first is thrown"), that none is thrown when none
 * holds, and that "a call that throws changes nothing".
 */
public final class RefusalsTest {
    private static final Check CHECK = new Check();

    private static final int ARGUMENT = 1;
    private static final int STATE = 2;
    private static final int ELEMENT = 4;

    /** What each polynomial may be: none, without roots, with roots (more of them in 0). */
    private static final int[][][] KINDS = {
        {Desks.NONE, {5}, Desks.product(Desks.p(-2, 0, 1), Desks.p(9, 12, 4))},
        {Desks.NONE, {-1, 0, 0, 0, 0, 0, 0, 0, -6}, {-1, -1, 1}},
    };
    private static final int[][] ROOTS = {{-1, 0, 3}, {-1, 0, 2}};

    private static final int[] POLYNOMIALS = {Desks.LOW, -1, 0, 1, 2, Desks.HIGH};
    private static final int[] COEFFICIENTS = {Desks.LOW, -9, -1, 0, 8, 9, 17, Desks.HIGH};
    private static final int[] EXPONENTS = {Desks.LOW, -1, 0, 62, 63, Desks.HIGH};
    private static final int[] NUMBERS = {Desks.LOW, -1, 0, 2, 3, 8, Desks.HIGH};
    private static final int[] TENS = {Desks.LOW, -1, 0, 90, 91, Desks.HIGH};
    private static final int[] TWOS = {Desks.LOW, -1, 0, 91, 300, 301, Desks.HIGH};

    /** A call on a desk. */
    private interface Asked {
        long of(SturmDesk x);
    }

    /** The kinds of both polynomials that the calls are tried with now, and what such a desk tells. */
    private static final int[] KIND = new int[2];
    private static String told;

    public static void main(String[] args) {
        for (KIND[0] = 0; KIND[0] < 3; KIND[0]++) {
            for (KIND[1] = 0; KIND[1] < 3; KIND[1]++) {
                told = tellAll(desk());
                put();
                degree();
                roots();
                repeated();
                sign();
                between();
                multiple();
                side();
                floor();
                apart();
                order();
                signAt();
                common();
                out();
            }
        }
        CHECK.end("RefusalsTest");
    }

    private static void put() {
        CHECK.sentence("2: Throws IllegalArgumentException when there is no such polynomial or coefficient.");
        for (int p : POLYNOMIALS) {
            for (int k : COEFFICIENTS) {
                boolean fits = k >= 0 && k <= 8;
                int holds = isPolynomial(p) && fits ? 0 : ARGUMENT;
                tried("put(" + p + ", " + k + ", 1)", holds, x -> putOne(x, p, k));
                if (holds != 0) {
                    coefficientsStay(p, k);
                }
            }
        }
    }

    private static long putOne(SturmDesk x, int p, int k) {
        x.put(p, k, 1);
        return 0;
    }

    /** Looks at all coefficients, as a polynomial's roots do not tell its coefficients. */
    private static void coefficientsStay(int p, int k) {
        for (int c = 0; c < 18; c++) {
            SturmDesk x = desk();
            Check.thrownBy(() -> putOne(x, p, k));
            int[] kind = kind(c / 9);
            int want = c % 9 < kind.length ? kind[c % 9] : 0;
            CHECK.due("coefficient " + c % 9 + " of " + c / 9 + " after put(" + p + ", " + k + ", 1)",
                    Desks.isCoefficient(x, c / 9, c % 9, want) ? 1 : 0, 1);
        }
    }

    private static void degree() {
        CHECK.sentence("3: Throws IllegalArgumentException when there is no such polynomial");
        for (int p : POLYNOMIALS) {
            tried("degree(" + p + ")", isPolynomial(p) ? 0 : ARGUMENT, x -> x.degree(p));
        }
    }

    private static void roots() {
        CHECK.sentence("4: Throws IllegalArgumentException; IllegalStateException when it is none");
        for (int p : POLYNOMIALS) {
            tried("roots(" + p + ")", named(p), x -> x.roots(p));
        }
    }

    private static void repeated() {
        CHECK.sentence("5: Throws as roots does.");
        for (int p : POLYNOMIALS) {
            tried("repeated(" + p + ")", named(p), x -> x.repeated(p));
        }
    }

    private static void sign() {
        CHECK.sentence("6: Throws as roots does; IllegalArgumentException also when e is not 0 .. 62.");
        for (int p : POLYNOMIALS) {
            for (int e : EXPONENTS) {
                tried("sign(" + p + ", 3, " + e + ")", named(p) | exponent(e), x -> x.sign(p, 3, e));
            }
        }
    }

    private static void between() {
        CHECK.sentence("7: Throws as sign does.");
        for (int p : POLYNOMIALS) {
            for (int e : EXPONENTS) {
                for (int f : EXPONENTS) {
                    int holds = named(p) | exponent(e) | exponent(f);
                    tried("between(" + p + ", 3, " + e + ", 5, " + f + ")", holds, x -> x.between(p, 3, e, 5, f));
                    tried("between(" + p + ", 5, " + e + ", 3, " + f + ")", holds, x -> x.between(p, 5, e, 3, f));
                }
            }
        }
    }

    private static void multiple() {
        CHECK.sentence("8: Throws as roots does; NoSuchElementException when there is no such root");
        for (int p : POLYNOMIALS) {
            for (int i : NUMBERS) {
                tried("multiple(" + p + ", " + i + ")", named(p) | root(p, i), x -> x.multiple(p, i));
            }
        }
    }

    private static void side() {
        CHECK.sentence("9: Throws as sign does; NoSuchElementException.");
        for (int p : POLYNOMIALS) {
            for (int i : NUMBERS) {
                for (int e : EXPONENTS) {
                    int holds = named(p) | exponent(e) | root(p, i);
                    tried("side(" + p + ", " + i + ", 3, " + e + ")", holds, x -> x.side(p, i, 3, e));
                }
            }
        }
    }

    private static void floor() {
        CHECK.sentence("10: Throws as roots does; IllegalArgumentException also when n is not 0 .. 90"
                + " (0 .. 300 if not ten); NoSuchElementException.");
        for (int p : POLYNOMIALS) {
            for (int i : NUMBERS) {
                for (int n : TENS) {
                    int holds = named(p) | (n >= 0 && n <= 90 ? 0 : ARGUMENT) | root(p, i);
                    tried("floor(" + p + ", " + i + ", true, " + n + ")", holds, x -> x.floor(p, i, true, n));
                }
                for (int n : TWOS) {
                    int holds = named(p) | (n >= 0 && n <= 300 ? 0 : ARGUMENT) | root(p, i);
                    tried("floor(" + p + ", " + i + ", false, " + n + ")", holds, x -> x.floor(p, i, false, n));
                }
            }
        }
    }

    private static void apart() {
        CHECK.sentence("11: Throws as roots does.");
        for (int p : POLYNOMIALS) {
            tried("apart(" + p + ")", named(p), x -> x.apart(p));
        }
    }

    private static void order() {
        CHECK.sentence("12: Throws IllegalStateException when one of both is none; NoSuchElementException.");
        for (int i : NUMBERS) {
            for (int j : NUMBERS) {
                int holds = oneIsNone() | root(0, i) | root(1, j);
                tried("order(" + i + ", " + j + ")", holds, x -> x.order(i, j));
            }
        }
    }

    private static void signAt() {
        CHECK.sentence("13: Throws IllegalArgumentException; IllegalStateException when one of both is none;"
                + " NoSuchElementException.");
        for (int p : POLYNOMIALS) {
            for (int i : NUMBERS) {
                int holds = (isPolynomial(p) ? 0 : ARGUMENT) | oneIsNone() | root(p, i);
                tried("signAt(" + p + ", " + i + ")", holds, x -> x.signAt(p, i));
            }
        }
    }

    private static void common() {
        CHECK.sentence("14: Throws IllegalStateException when one of both is none.");
        tried("common()", oneIsNone(), SturmDesk::common);
    }

    private static void out() {
        CHECK.sentence("15: Throws NoSuchElementException when there is no byte k.");
        int[] places = {Desks.LOW, -8, -1, 0, 4, 5, 6, 127, 128, Desks.HIGH};
        for (int k : places) {
            // OUT of every new desk here has five bytes.
            triedFirst("out(" + k + ")", k >= 0 && k < 5 ? 0 : ELEMENT, x -> x.out(k));
        }
    }

    private static int[] kind(int p) {
        return KINDS[p][KIND[p]];
    }

    /** How many roots the polynomial has now, -1 if it is none. */
    private static int rootsOf(int p) {
        return ROOTS[p][KIND[p]];
    }

    private static boolean isPolynomial(int p) {
        return p == 0 || p == 1;
    }

    /** What holds of a call that names this polynomial. */
    private static int named(int p) {
        if (!isPolynomial(p)) {
            return ARGUMENT;
        }
        return rootsOf(p) < 0 ? STATE : 0;
    }

    private static int exponent(int e) {
        return e >= 0 && e <= 62 ? 0 : ARGUMENT;
    }

    private static int root(int p, int i) {
        return isPolynomial(p) && i >= 0 && i < rootsOf(p) ? 0 : ELEMENT;
    }

    private static int oneIsNone() {
        return rootsOf(0) < 0 || rootsOf(1) < 0 ? STATE : 0;
    }

    /** A desk of the kinds that are tried now, with -4200 as OUT. */
    private static SturmDesk desk() {
        SturmDesk x = new SturmDesk();
        x.put(0, 0, 42);
        x.put(0, 1, 1);
        x.floor(0, 0, true, 2);
        Desks.set(x, 0, kind(0));
        Desks.set(x, 1, kind(1));
        return x;
    }

    private static void tried(String call, int holds, Asked asked) {
        triedFirst(call, holds, asked);
        triedLater(call, holds, asked);
    }

    private static void triedFirst(String call, int holds, Asked asked) {
        String name = call + " with kinds " + KIND[0] + ", " + KIND[1];
        SturmDesk x = desk();
        CHECK.dueText(name, Check.thrownBy(() -> asked.of(x)), first(holds));
        if (holds != 0) {
            CHECK.dueText("what the desk tells after " + name, tellAll(x), told);
        }
    }

    /** The same on a desk that has already found all its roots. */
    private static void triedLater(String call, int holds, Asked asked) {
        String name = call + " with kinds " + KIND[0] + ", " + KIND[1] + ", asked before";
        SturmDesk x = desk();
        String roots = tellRoots(x);
        String out = Desks.out(x);
        CHECK.dueText(name, Check.thrownBy(() -> asked.of(x)), first(holds));
        if (holds != 0) {
            CHECK.dueText("OUT after " + name, Desks.out(x), out);
            CHECK.dueText("what the desk tells after " + name, tellRoots(x), roots);
        }
    }

    private static String first(int holds) {
        if ((holds & ARGUMENT) != 0) {
            return "java.lang.IllegalArgumentException";
        }
        if ((holds & STATE) != 0) {
            return "java.lang.IllegalStateException";
        }
        return holds == 0 ? "no exception" : "java.util.NoSuchElementException";
    }

    private static String tellAll(SturmDesk x) {
        return Desks.out(x) + tellRoots(x);
    }

    private static String tellRoots(SturmDesk x) {
        StringBuilder all = new StringBuilder(";");
        for (int p = 0; p < 2; p++) {
            all.append(" degree ").append(x.degree(p));
            if (rootsOf(p) >= 0) {
                tellOne(x, p, all);
            }
        }
        if (oneIsNone() == 0) {
            all.append(" common ").append(x.common());
            for (int i = 0; i < rootsOf(0); i++) {
                all.append(" signAt ").append(x.signAt(0, i));
                for (int j = 0; j < rootsOf(1); j++) {
                    all.append(" order ").append(x.order(i, j));
                }
            }
            for (int j = 0; j < rootsOf(1); j++) {
                all.append(" signAt ").append(x.signAt(1, j));
            }
        }
        return all.toString();
    }

    private static void tellOne(SturmDesk x, int p, StringBuilder all) {
        all.append(" roots ").append(x.roots(p)).append(" repeated ").append(x.repeated(p));
        all.append(" apart ").append(x.apart(p)).append(" between ").append(x.between(p, -1, 0, 3, 1));
        for (int a = -2; a <= 2; a++) {
            all.append(" sign ").append(x.sign(p, a, 0));
        }
        for (int i = 0; i < rootsOf(p); i++) {
            all.append(" multiple ").append(x.multiple(p, i)).append(" side ").append(x.side(p, i, 3, 1));
            all.append(" floor ").append(Desks.floor(x, p, i, true, 15));
            all.append(" floor ").append(Desks.floor(x, p, i, false, 20));
        }
    }
}
