import java.util.NoSuchElementException;

/** The promises of the document in order: ordinary inputs, edges, wrong inputs. */
public final class PromisesTest {
    private static final Class<IllegalArgumentException> ARGUMENT = IllegalArgumentException.class;
    private static final Class<IllegalStateException> STATE = IllegalStateException.class;
    private static final Class<NoSuchElementException> ELEMENT = NoSuchElementException.class;
    private static final Check CHECK = new Check();

    public static void main(String[] args) {
        newObject();
        put();
        degree();
        roots();
        repeated();
        sign();
        signFarOut();
        between();
        multiple();
        side();
        floorTen();
        floorTwo();
        floorThrows();
        apart();
        order();
        signAt();
        common();
        out();
        throwsChangeNothing();
        samePolynomialAgain();
        exampleOfReadme();
        CHECK.end("PromisesTest");
    }

    /** A desk with the coefficients, lowest first, of polynomials 0 and 1. */
    private static SturmDesk desk(int[] zero, int... one) {
        return Desks.both(zero, one);
    }

    private static void set(SturmDesk x, int polynomial, int... c) {
        Desks.set(x, polynomial, c);
    }

    private static int[] p(int... c) {
        return c;
    }

    private static void dueFloor(SturmDesk x, int polynomial, int i, boolean ten, int n, String want) {
        String call = "floor(" + polynomial + ", " + i + ", " + ten + ", " + n + ")";
        CHECK.dueText(call, Desks.floor(x, polynomial, i, ten, n), want);
    }

    private static void newObject() {
        SturmDesk x = new SturmDesk();
        CHECK.due("new degree(0)", x.degree(0), -1);
        CHECK.due("new degree(1)", x.degree(1), -1);
        CHECK.dueThrow("new out(0)", ELEMENT, () -> x.out(0));
        CHECK.dueThrow("new roots(0)", STATE, () -> x.roots(0));
        CHECK.dueThrow("new roots(1)", STATE, () -> x.roots(1));
    }

    private static void put() {
        SturmDesk x = desk(p(6, -5, 1), -1, 1);
        CHECK.due("put roots", x.roots(0), 2);
        x.put(0, 0, 7);
        CHECK.due("put roots after a change", x.roots(0), 0);
        x.put(0, 0, 6);
        CHECK.due("put roots after changing back", x.roots(0), 2);
        x.put(1, 8, Integer.MIN_VALUE);
        CHECK.due("put the lowest int", x.sign(1, 1, 0), -1);
        x.put(1, 8, Integer.MAX_VALUE);
        CHECK.due("put the highest int", x.sign(1, 1, 0), 1);
        CHECK.due("put keeps the other polynomial", x.degree(0), 2);
        CHECK.dueThrow("put(2,..)", ARGUMENT, () -> { x.put(2, 0, 1); return 0; });
        CHECK.dueThrow("put(-1,..)", ARGUMENT, () -> { x.put(-1, 0, 1); return 0; });
        CHECK.dueThrow("put k 9", ARGUMENT, () -> { x.put(0, 9, 1); return 0; });
        CHECK.dueThrow("put k -1", ARGUMENT, () -> { x.put(0, -1, 1); return 0; });
        CHECK.dueThrow("put k lowest", ARGUMENT, () -> { x.put(1, Integer.MIN_VALUE, 1); return 0; });
        CHECK.dueThrow("put k highest", ARGUMENT, () -> { x.put(1, Integer.MAX_VALUE, 1); return 0; });
        CHECK.due("put that throws changes nothing", x.roots(0), 2);
    }

    private static void degree() {
        SturmDesk x = new SturmDesk();
        x.put(0, 8, 3);
        CHECK.due("degree 8", x.degree(0), 8);
        x.put(0, 3, -1);
        x.put(0, 8, 0);
        CHECK.due("degree 3", x.degree(0), 3);
        x.put(0, 0, 5);
        x.put(0, 3, 0);
        CHECK.due("degree 0", x.degree(0), 0);
        x.put(0, 0, 0);
        CHECK.due("degree of none again", x.degree(0), -1);
        CHECK.due("degree of the other", x.degree(1), -1);
        CHECK.dueThrow("degree(2)", ARGUMENT, () -> x.degree(2));
        CHECK.dueThrow("degree(-1)", ARGUMENT, () -> x.degree(-1));
    }

    private static void roots() {
        SturmDesk x = desk(p(5));
        CHECK.due("roots of a constant", x.roots(0), 0);
        set(x, 0, 0, 0, 0, 0, 0, 0, 0, 0, -7);
        CHECK.due("roots of -7 x^8", x.roots(0), 1);
        set(x, 0, 1, 0, 1);
        CHECK.due("roots of x^2 + 1", x.roots(0), 0);
        set(x, 0, 0, 5040, 13068, 13132, 6769, 1960, 322, 28, 1);
        CHECK.due("roots 0, -1 .. -7", x.roots(0), 8);
        set(x, 0, 1, 0, -32, 0, 160, 0, -256, 0, 128);
        CHECK.due("roots of a Chebyshev polynomial", x.roots(0), 8);
        set(x, 0, 1, -2, 1);
        CHECK.due("roots of (x - 1)^2", x.roots(0), 1);
        set(x, 0, 1, 2, 3, 2, 1);
        CHECK.due("roots of (x^2 + x + 1)^2", x.roots(0), 0);
        set(x, 0, Integer.MAX_VALUE, Integer.MIN_VALUE);
        CHECK.due("roots of a wide linear one", x.roots(0), 1);
        CHECK.dueThrow("roots(2)", ARGUMENT, () -> x.roots(2));
        CHECK.dueThrow("roots(-1)", ARGUMENT, () -> x.roots(-1));
        CHECK.dueThrow("roots of none", STATE, () -> x.roots(1));
    }

    private static void repeated() {
        SturmDesk x = desk(p(9));
        CHECK.due("repeated of a constant", x.repeated(0), 0);
        set(x, 0, 3, 4);
        CHECK.due("repeated of a linear one", x.repeated(0), 0);
        set(x, 0, 1, 2, 3, 2, 1);
        CHECK.due("repeated of (x^2 + x + 1)^2", x.repeated(0), 2);
        set(x, 0, 0, 0, 0, 0, 0, 0, 0, 0, 3);
        CHECK.due("repeated of 3 x^8", x.repeated(0), 7);
        set(x, 0, 1, -8, 28, -56, 70, -56, 28, -8, 1);
        CHECK.due("repeated of (x - 1)^8", x.repeated(0), 7);
        set(x, 0, -4, 8, -5, 1);
        CHECK.due("repeated of (x - 1)(x - 2)^2", x.repeated(0), 1);
        set(x, 0, -6, 11, -6, 1);
        CHECK.due("repeated of (x - 1)(x - 2)(x - 3)", x.repeated(0), 0);
        CHECK.dueThrow("repeated(2)", ARGUMENT, () -> x.repeated(2));
        CHECK.dueThrow("repeated of none", STATE, () -> x.repeated(1));
    }

    private static void sign() {
        SturmDesk x = desk(p(-2, 0, 1));
        CHECK.due("sign at 1", x.sign(0, 1, 0), -1);
        CHECK.due("sign at 3 / 2", x.sign(0, 3, 1), 1);
        CHECK.due("sign at -3 / 2", x.sign(0, -3, 1), 1);
        CHECK.due("sign at 0", x.sign(0, 0, 62), -1);
        set(x, 0, -3, 4);
        CHECK.due("sign at 3 / 4", x.sign(0, 3, 2), 0);
        CHECK.due("sign at 3 / 4 again", x.sign(0, 3L << 60, 62), 0);
        CHECK.due("sign just above", x.sign(0, (3L << 60) + 1, 62), 1);
        CHECK.due("sign just below", x.sign(0, (3L << 60) - 1, 62), -1);
        set(x, 0, -5);
        CHECK.due("sign of a constant", x.sign(0, 12345, 6), -1);
        CHECK.dueThrow("sign(2,..)", ARGUMENT, () -> x.sign(2, 0, 0));
        CHECK.dueThrow("sign e 63", ARGUMENT, () -> x.sign(0, 0, 63));
        CHECK.dueThrow("sign e -1", ARGUMENT, () -> x.sign(0, 0, -1));
        CHECK.dueThrow("sign of none", STATE, () -> x.sign(1, 0, 0));
        CHECK.dueThrow("sign of none, e 63", ARGUMENT, () -> x.sign(1, 0, 63));
        CHECK.dueThrow("sign of none, e -1", ARGUMENT, () -> x.sign(1, 0, -1));
    }

    private static void signFarOut() {
        int low = Integer.MIN_VALUE;
        SturmDesk x = desk(p(low, low, low, low, low, low, low, low, low));
        CHECK.due("sign at the lowest point", x.sign(0, Long.MIN_VALUE, 0), -1);
        CHECK.due("sign at the highest point", x.sign(0, Long.MAX_VALUE, 0), -1);
        CHECK.due("sign at -2", x.sign(0, Long.MIN_VALUE, 62), -1);
        CHECK.due("sign near 2", x.sign(0, Long.MAX_VALUE, 62), -1);
        set(x, 0, 0, 0, 0, 0, 0, 0, 0, 1);
        CHECK.due("sign of x^7 at the lowest point", x.sign(0, Long.MIN_VALUE, 0), -1);
        CHECK.due("sign of x^7 at the least point above 0", x.sign(0, 1, 62), 1);
        set(x, 0, 2, 1);
        CHECK.due("sign of x + 2 at -2", x.sign(0, Long.MIN_VALUE, 62), 0);
    }

    private static void between() {
        SturmDesk x = desk(p(-6, 11, -6, 1));
        CHECK.due("between 0 and 4", x.between(0, 0, 0, 4, 0), 3);
        CHECK.due("between 1 and 3: not 1, but 3", x.between(0, 1, 0, 3, 0), 2);
        CHECK.due("between 1/2 and 5/2", x.between(0, 1, 1, 5, 1), 2);
        CHECK.due("between a point and itself", x.between(0, 2, 0, 2, 0), 0);
        CHECK.due("between equal points", x.between(0, 2, 0, 4, 1), 0);
        CHECK.due("between points the wrong way", x.between(0, 4, 0, 0, 0), 0);
        CHECK.due("between the ends", x.between(0, Long.MIN_VALUE, 0, Long.MAX_VALUE, 0), 3);
        set(x, 0, 0, 0, 1);
        CHECK.due("between with a double root at the end", x.between(0, -1, 0, 0, 0), 1);
        CHECK.due("between with a double root at the start", x.between(0, 0, 0, 1, 0), 0);
        set(x, 0, 3);
        CHECK.due("between of a constant", x.between(0, -9, 0, 9, 0), 0);
        CHECK.dueThrow("between(2,..)", ARGUMENT, () -> x.between(2, 0, 0, 1, 0));
        CHECK.dueThrow("between e 63", ARGUMENT, () -> x.between(0, 0, 63, 1, 0));
        CHECK.dueThrow("between e -1", ARGUMENT, () -> x.between(0, 0, -1, 1, 0));
        CHECK.dueThrow("between f 63", ARGUMENT, () -> x.between(0, 0, 0, 1, 63));
        CHECK.dueThrow("between f -1", ARGUMENT, () -> x.between(0, 0, 0, 1, -1));
        CHECK.dueThrow("between of none", STATE, () -> x.between(1, 0, 0, 1, 0));
        CHECK.dueThrow("between of none, f 63", ARGUMENT, () -> x.between(1, 0, 0, 1, 63));
    }

    private static void multiple() {
        SturmDesk x = desk(p(-4, 8, -5, 1));
        CHECK.due("multiple of 1 in (x - 1)(x - 2)^2", x.multiple(0, 0), 1);
        CHECK.due("multiple of 2 in (x - 1)(x - 2)^2", x.multiple(0, 1), 2);
        set(x, 0, 0, 0, 0, 0, 0, 0, 0, 0, 5);
        CHECK.due("multiple of 0 in 5 x^8", x.multiple(0, 0), 8);
        set(x, 0, -8, 0, 12, 0, -6, 0, 1);
        CHECK.due("multiple in (x^2 - 2)^3", x.multiple(0, 0), 3);
        CHECK.due("multiple in (x^2 - 2)^3", x.multiple(0, 1), 3);
        set(x, 0, 16, -12, -16, 12, 4, -3);
        CHECK.due("multiple in (4 - 3 x)(x^2 - 2)^2", x.multiple(0, 0), 2);
        CHECK.due("multiple in (4 - 3 x)(x^2 - 2)^2", x.multiple(0, 1), 1);
        CHECK.due("multiple in (4 - 3 x)(x^2 - 2)^2", x.multiple(0, 2), 2);
        set(x, 0, -1, 0, -2, 0, -1);
        CHECK.dueThrow("multiple without roots", ELEMENT, () -> x.multiple(0, 0));
        set(x, 0, -1, -1, -2, -2, -1, -1);
        CHECK.due("multiple beside repeated unreal ones", x.multiple(0, 0), 1);
        CHECK.dueThrow("multiple(2,..)", ARGUMENT, () -> x.multiple(2, 0));
        CHECK.dueThrow("multiple of none", STATE, () -> x.multiple(1, 0));
        CHECK.dueThrow("multiple root 1", ELEMENT, () -> x.multiple(0, 1));
        CHECK.dueThrow("multiple root -1", ELEMENT, () -> x.multiple(0, -1));
    }

    private static void side() {
        SturmDesk x = desk(p(-2, 0, 1));
        CHECK.due("side of the root of 2 to 3 / 2", x.side(0, 1, 3, 1), -1);
        CHECK.due("side of the root of 2 to 1", x.side(0, 1, 1, 0), 1);
        CHECK.due("side of the other root", x.side(0, 0, 1, 0), -1);
        CHECK.due("side of the other root", x.side(0, 0, -3, 1), 1);
        CHECK.due("side nearly there", x.side(0, 1, 6521908912666391106L, 62), 1);
        CHECK.due("side nearly there", x.side(0, 1, 6521908912666391107L, 62), -1);
        set(x, 0, 9, -12, 4);
        CHECK.due("side of a double root to itself", x.side(0, 0, 3, 1), 0);
        CHECK.due("side of a double root to itself", x.side(0, 0, 3L << 61, 62), 0);
        CHECK.due("side of a double root below", x.side(0, 0, (3L << 60) - 1, 61), 1);
        CHECK.due("side of a root to the lowest point", x.side(0, 0, Long.MIN_VALUE, 0), 1);
        CHECK.due("side of a root to the highest point", x.side(0, 0, Long.MAX_VALUE, 0), -1);
        CHECK.dueThrow("side(2,..)", ARGUMENT, () -> x.side(2, 0, 0, 0));
        CHECK.dueThrow("side e 63", ARGUMENT, () -> x.side(0, 0, 0, 63));
        CHECK.dueThrow("side e -1 before no such root", ARGUMENT, () -> x.side(0, 5, 0, -1));
        CHECK.dueThrow("side of none before no such root", STATE, () -> x.side(1, 5, 0, 0));
        CHECK.dueThrow("side of none, e 63", ARGUMENT, () -> x.side(1, 5, 0, 63));
        CHECK.dueThrow("side root 1", ELEMENT, () -> x.side(0, 1, 0, 0));
        CHECK.dueThrow("side root -1", ELEMENT, () -> x.side(0, -1, 0, 0));
    }

    private static void floorTen() {
        SturmDesk x = desk(p(5, 2));
        dueFloor(x, 0, 0, true, 0, "-3");
        dueFloor(x, 0, 0, true, 1, "-25");
        dueFloor(x, 0, 0, true, 90, "-25" + "0".repeat(89));
        set(x, 0, 0, 1);
        dueFloor(x, 0, 0, true, 0, "0");
        dueFloor(x, 0, 0, true, 90, "0");
        set(x, 0, -1, 3);
        dueFloor(x, 0, 0, true, 0, "0");
        dueFloor(x, 0, 0, true, 90, "3".repeat(90));
        set(x, 0, 1, 3);
        dueFloor(x, 0, 0, true, 0, "-1");
        dueFloor(x, 0, 0, true, 90, "-" + "3".repeat(89) + "4");
        set(x, 0, -1, 5);
        dueFloor(x, 0, 0, true, 1, "2");
        dueFloor(x, 0, 0, true, 90, "2" + "0".repeat(89));
        set(x, 0, -2, 0, 1);
        dueFloor(x, 0, 1, true, 20, "141421356237309504880");
        dueFloor(x, 0, 0, true, 3, "-1415");
        dueFloor(x, 0, 1, true, 0, "1");
        set(x, 0, Integer.MIN_VALUE, 1);
        dueFloor(x, 0, 0, true, 90, "2147483648" + "0".repeat(90));
        set(x, 0, Integer.MIN_VALUE, -1);
        dueFloor(x, 0, 0, true, 90, "-2147483648" + "0".repeat(90));
        set(x, 0, -1, Integer.MAX_VALUE);
        dueFloor(x, 0, 0, true, 9, "0");
        dueFloor(x, 0, 0, true, 20, "46566128752");
    }

    private static void floorTwo() {
        SturmDesk x = desk(p(5, 2));
        dueFloor(x, 0, 0, false, 0, "-3");
        dueFloor(x, 0, 0, false, 1, "-5");
        dueFloor(x, 0, 0, false, 2, "-10");
        set(x, 0, -2, 0, 1);
        dueFloor(x, 0, 1, false, 0, "1");
        dueFloor(x, 0, 1, false, 10, "1448");
        dueFloor(x, 0, 0, false, 10, "-1449");
        java.math.BigInteger root = java.math.BigInteger.ONE.shiftLeft(601).sqrt();
        dueFloor(x, 0, 1, false, 300, root.toString());
        dueFloor(x, 0, 0, false, 300, root.negate().subtract(java.math.BigInteger.ONE).toString());
        dueFloor(x, 0, 1, false, 10, "1448");
        set(x, 0, Integer.MIN_VALUE, 1);
        dueFloor(x, 0, 0, false, 300, java.math.BigInteger.ONE.shiftLeft(331).toString());
    }

    private static void floorThrows() {
        SturmDesk x = desk(p(-2, 0, 1));
        CHECK.dueThrow("floor(2,..)", ARGUMENT, () -> x.floor(2, 0, true, 0));
        CHECK.dueThrow("floor ten 91", ARGUMENT, () -> x.floor(0, 0, true, 91));
        CHECK.dueThrow("floor ten -1", ARGUMENT, () -> x.floor(0, 0, true, -1));
        CHECK.dueThrow("floor two 301", ARGUMENT, () -> x.floor(0, 0, false, 301));
        CHECK.dueThrow("floor two -1", ARGUMENT, () -> x.floor(0, 0, false, -1));
        CHECK.due("floor two 91", x.floor(0, 1, false, 91), 28);
        CHECK.dueThrow("floor of none", STATE, () -> x.floor(1, 0, true, 0));
        CHECK.dueThrow("floor of none, n 91", ARGUMENT, () -> x.floor(1, 0, true, 91));
        CHECK.dueThrow("floor no such root, n 91", ARGUMENT, () -> x.floor(0, 2, true, 91));
        CHECK.dueThrow("floor root 2", ELEMENT, () -> x.floor(0, 2, true, 0));
        CHECK.dueThrow("floor root -1", ELEMENT, () -> x.floor(0, -1, false, 0));
        CHECK.dueThrow("floor of none, no such root", STATE, () -> x.floor(1, 7, false, 0));
    }

    private static void apart() {
        SturmDesk x = desk(p(-2, 0, 1));
        CHECK.due("apart of x^2 - 2", x.apart(0), 0);
        set(x, 0, 7);
        CHECK.due("apart of a constant", x.apart(0), 0);
        set(x, 0, -1, 3);
        CHECK.due("apart of one root", x.apart(0), 0);
        set(x, 0, 0, -1, 2);
        CHECK.due("apart of 0 and 1/2", x.apart(0), 1);
        set(x, 0, 1, -5, 6);
        CHECK.due("apart of 1/3 and 1/2", x.apart(0), 1);
        set(x, 0, 2, -9, 9);
        CHECK.due("apart of 1/3 and 2/3", x.apart(0), 1);
        set(x, 0, 0, 0, 0, 0, 0, 0, -1, 1024);
        CHECK.due("apart of 0 and 1/1024", x.apart(0), 10);
        set(x, 0, 0, 1, Integer.MAX_VALUE);
        CHECK.due("apart of 0 and just below it", x.apart(0), 0);
        set(x, 0, 0, -1, Integer.MAX_VALUE);
        CHECK.due("apart of 0 and just above it", x.apart(0), 31);
        set(x, 0, 0, 5040, 13068, 13132, 6769, 1960, 322, 28, 1);
        CHECK.due("apart of 0 .. -7", x.apart(0), 0);
        set(x, 0, 0, 5, 13);
        CHECK.due("apart below 0", x.apart(0), 0);
        x.floor(0, 0, false, 300);
        x.floor(0, 1, false, 300);
        CHECK.due("apart after digits", x.apart(0), 0);
        // x^8 - 2 (32767 x - 1)^2
        set(x, 0, -2, 131068, -2147352578, 0, 0, 0, 0, 0, 1);
        CHECK.due("apart of roots very near to one another", x.apart(0), 75);
        CHECK.dueThrow("apart(2)", ARGUMENT, () -> x.apart(2));
        CHECK.dueThrow("apart of none", STATE, () -> x.apart(1));
    }

    private static void order() {
        SturmDesk x = desk(p(-2, 0, 1), -4, 0, 0, 0, 1);
        CHECK.due("order of equal roots", x.order(0, 0), 0);
        CHECK.due("order of equal roots", x.order(1, 1), 0);
        CHECK.due("order below", x.order(0, 1), -1);
        CHECK.due("order above", x.order(1, 0), 1);
        set(x, 1, -3, 2);
        CHECK.due("order of an irrational and a dyadic one", x.order(1, 0), -1);
        set(x, 1, -7, 5);
        CHECK.due("order of the root of 2 and 7/5", x.order(1, 0), 1);
        set(x, 1, -1393, 985);
        CHECK.due("order of the root of 2 and 1393/985", x.order(1, 0), 1);
        set(x, 1, -1855077841, 1311738121);
        CHECK.due("order of the root of 2 and 1855077841/1311738121", x.order(1, 0), 1);
        set(x, 1, -768398401, 543339720);
        CHECK.due("order of the root of 2 and 768398401/543339720", x.order(1, 0), -1);
        set(x, 0, -3, 2);
        set(x, 1, 9, -12, 4);
        CHECK.due("order of 3/2 and a double 3/2", x.order(0, 0), 0);
        set(x, 1, 0, 0, 0, 0, 0, 0, 0, 0, 1);
        CHECK.due("order of 3/2 and 0", x.order(0, 0), 1);
        set(x, 0, 0, 1);
        CHECK.due("order of 0 and 0", x.order(0, 0), 0);
        set(x, 1, -2, 0, 1);
        CHECK.due("order of 0 and the lower root of 2", x.order(0, 0), 1);
        CHECK.due("order of 0 and the upper root of 2", x.order(0, 1), -1);
        set(x, 1, -1, 1);
        CHECK.dueThrow("order root 1 of 0", ELEMENT, () -> x.order(1, 0));
        CHECK.dueThrow("order root 1 of 1", ELEMENT, () -> x.order(0, 1));
        CHECK.dueThrow("order root -1 of 0", ELEMENT, () -> x.order(-1, 0));
        CHECK.dueThrow("order root -1 of 1", ELEMENT, () -> x.order(0, -1));
        set(x, 1);
        CHECK.dueThrow("order with 1 none", STATE, () -> x.order(0, 0));
        CHECK.dueThrow("order with 1 none, no such root", STATE, () -> x.order(9, 0));
        set(x, 0);
        set(x, 1, 1, 1);
        CHECK.dueThrow("order with 0 none", STATE, () -> x.order(0, 0));
        CHECK.dueThrow("order with 0 none, no such root", STATE, () -> x.order(0, 9));
    }

    private static void signAt() {
        SturmDesk x = desk(p(-2, 0, 1), -6, 1, 3, 1);
        CHECK.due("signAt(0, 0)", x.signAt(0, 0), -1);
        CHECK.due("signAt(0, 1)", x.signAt(0, 1), 1);
        set(x, 1, -8, 0, 12, 0, -6, 0, 1);
        CHECK.due("signAt of a multiple", x.signAt(0, 1), 0);
        CHECK.due("signAt of a divisor", x.signAt(1, 0), 0);
        set(x, 1, -4);
        CHECK.due("signAt of a constant", x.signAt(0, 0), -1);
        CHECK.dueThrow("signAt a constant's root", ELEMENT, () -> x.signAt(1, 0));
        set(x, 1, -2, 1);
        CHECK.due("signAt at a whole root", x.signAt(1, 0), 1);
        set(x, 0, -1, 3);
        set(x, 1, -1, 0, 9);
        CHECK.due("signAt at a third", x.signAt(0, 0), 0);
        set(x, 1, -1, 0, 8);
        CHECK.due("signAt near a third", x.signAt(0, 0), -1);
        CHECK.dueThrow("signAt(2,..)", ARGUMENT, () -> x.signAt(2, 0));
        CHECK.dueThrow("signAt(-1,..)", ARGUMENT, () -> x.signAt(-1, 0));
        CHECK.dueThrow("signAt root 1", ELEMENT, () -> x.signAt(0, 1));
        CHECK.dueThrow("signAt root -1", ELEMENT, () -> x.signAt(0, -1));
        set(x, 1);
        CHECK.dueThrow("signAt when the other is none", STATE, () -> x.signAt(0, 0));
        CHECK.dueThrow("signAt when this one is none", STATE, () -> x.signAt(1, 0));
        CHECK.dueThrow("signAt when one is none, no such root", STATE, () -> x.signAt(0, 9));
        CHECK.dueThrow("signAt(2,..) when one is none", ARGUMENT, () -> x.signAt(2, 9));
    }

    private static void common() {
        SturmDesk x = desk(p(-2, 0, 1), 4, 0, -4, 0, 1);
        CHECK.due("common of x^2 - 2 and its square", x.common(), 2);
        set(x, 0, 6, -5, 1);
        set(x, 1, -6, 11, -6, 1);
        CHECK.due("common of 2, 3 and 1, 2, 3", x.common(), 2);
        set(x, 1, -6, 1, 1);
        CHECK.due("common of 2, 3 and 2, -3", x.common(), 1);
        set(x, 1, 1, 0, 1);
        CHECK.due("common of none", x.common(), 0);
        set(x, 0, 1, 1, 1, 1);
        CHECK.due("common unreal ones", x.common(), 0);
        set(x, 1, 3);
        CHECK.due("common with a constant", x.common(), 0);
        set(x, 0, -3);
        CHECK.due("common of constants", x.common(), 0);
        set(x, 0);
        CHECK.dueThrow("common with 0 none", STATE, x::common);
        set(x, 0, 1);
        set(x, 1);
        CHECK.dueThrow("common with 1 none", STATE, x::common);
    }

    private static void out() {
        SturmDesk x = desk(p(-12345678, 1));
        CHECK.due("floor", x.floor(0, 0, true, 1), 9);
        CHECK.due("out(0)", x.out(0), 0x3837363534333231L);
        CHECK.due("out(1)", x.out(1), 0x3038373635343332L);
        CHECK.due("out(2)", x.out(2), 0x30383736353433L);
        CHECK.due("out(8)", x.out(8), 0x30L);
        CHECK.dueThrow("out(9)", ELEMENT, () -> x.out(9));
        CHECK.dueThrow("out(-1)", ELEMENT, () -> x.out(-1));
        CHECK.dueThrow("out(lowest)", ELEMENT, () -> x.out(Integer.MIN_VALUE));
        CHECK.dueThrow("out(highest)", ELEMENT, () -> x.out(Integer.MAX_VALUE));
        set(x, 0, 1, 1);
        CHECK.due("out after put", x.out(8), 0x30L);
        CHECK.due("floor", x.floor(0, 0, true, 0), 2);
        CHECK.due("out(0)", x.out(0), 0x312dL);
        CHECK.dueThrow("out(2)", ELEMENT, () -> x.out(2));
    }

    private static void throwsChangeNothing() {
        SturmDesk x = desk(p(-7, 1), 1);
        x.floor(0, 0, true, 1);
        CHECK.dueThrow("floor that throws", ELEMENT, () -> x.floor(0, 1, true, 5));
        CHECK.dueThrow("floor that throws", ARGUMENT, () -> x.floor(0, 0, true, 91));
        CHECK.dueThrow("floor that throws", ELEMENT, () -> x.floor(1, 0, true, 2));
        set(x, 1);
        CHECK.dueThrow("floor that throws", STATE, () -> x.floor(1, 0, true, 2));
        CHECK.due("out after floors that threw", x.out(0), 0x3037L);
        CHECK.due("degree after calls that threw", x.degree(0), 1);
        CHECK.due("degree after calls that threw", x.degree(1), -1);
    }

    private static void samePolynomialAgain() {
        SturmDesk x = desk(p(-2, 0, 1), -3, 0, 1);
        dueFloor(x, 0, 1, true, 90, digitsOfRoot(2));
        x.put(0, 0, -2);
        dueFloor(x, 0, 1, true, 90, digitsOfRoot(2));
        x.put(0, 0, -5);
        dueFloor(x, 0, 1, true, 90, digitsOfRoot(5));
        dueFloor(x, 1, 1, true, 90, digitsOfRoot(3));
        CHECK.due("order after a change", x.order(1, 1), 1);
    }

    private static String digitsOfRoot(int whole) {
        return java.math.BigInteger.valueOf(whole)
                .multiply(java.math.BigInteger.TEN.pow(180)).sqrt().toString();
    }

    /** The example in README.md, so that what it says stays true. */
    private static void exampleOfReadme() {
        SturmDesk desk = new SturmDesk();
        desk.put(0, 2, 1);
        desk.put(0, 0, -2);
        CHECK.due("README: roots", desk.roots(0), 2);
        CHECK.due("README: floor", desk.floor(0, 1, true, 20), 21);
        CHECK.dueText("README: OUT", Desks.out(desk), "141421356237309504880");
        CHECK.due("README: out", desk.out(0), Desks.eight("14142135", 0));
        CHECK.due("README: side", desk.side(0, 1, 3, 1), -1);
        desk.put(1, 1, 5);
        desk.put(1, 0, -7);
        CHECK.due("README: order", desk.order(1, 0), 1);
        CHECK.due("README: signAt", desk.signAt(0, 1), 1);
    }
}
