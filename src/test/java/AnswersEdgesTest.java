import java.util.function.Supplier;

/** Promises 5 to 9, sentence by sentence: the last argument that is allowed, and the first that is not. */
public final class AnswersEdgesTest {
    private static final int LEAST = Integer.MIN_VALUE;
    private static final int GREATEST = Integer.MAX_VALUE;
    private static final int[] NO_SIDES = {-1, 2, 3, 256, 257, LEAST, LEAST + 1, GREATEST};
    /** No roots of any function, and 9, which is one for integral alone. */
    private static final int[] NEVER_ROOTS = {-4, 4, -5, 5, 8, 10, -9, 253, 256, 259, LEAST, LEAST + 3, GREATEST, GREATEST - 3};

    public static void main(String[] args) {
        noSuchPower();
        noSuchPolynomial();
        noRoot();
        firstAndLastPart();
        noSuchPart();
        noSuchSideOfAPart();
        polynomialOfTheIntegral();
        beyondThePolynomial();
        noPowerBelowOne();
        firstAndLastOfARoot();
        noSuchOfARoot();
        neither9NorARoot();
        noSuchSideOfTheIntegral();
        firstAndLastWholeNumber();
        noSuchWholeNumber();
        noValueAtARoot();
        noSuchSideOfAValue();
        refusedCallsLeaveTheDraft();
        changesFromOneFunctionToTheNext();
        lastPromisedCall();
        Check.end();
    }

    /** Promise 5, "0 when there is none": below power 0, above the degree, above any degree. */
    private static void noSuchPower() {
        PartsDesk desk = Check.desk("7x^6+5", "(x-1)^3(x-1)^2");
        Check.due("the numerator's last", 7L, () -> desk.coefficient(0, 6));
        Check.due("the numerator's first", 5L, () -> desk.coefficient(0, 0));
        Check.due("the denominator's last", 1L, () -> desk.coefficient(1, 5));
        Check.due("the denominator's first", -1L, () -> desk.coefficient(1, 0));
        Check.due("above the denominator's degree", 0L, () -> desk.coefficient(1, 6));
        Check.due("the quotient's last", 7L, () -> desk.coefficient(2, 1));
        Check.due("the quotient's first", 35L, () -> desk.coefficient(2, 0));
        Check.due("above the quotient's degree", 0L, () -> desk.coefficient(2, 2));
        for (int of = 0; of <= 2; of++) {
            int which = of;
            for (int i : new int[] {-1, -2, -7, 7, 8, 256, 262, LEAST, LEAST + 6, GREATEST, GREATEST - 6}) {
                Check.due("coefficient(" + of + ", " + i + ")", 0L, () -> desk.coefficient(which, i));
            }
        }
        PartsDesk most = Check.desk("3x^6", "(x)");
        Check.due("the greatest quotient", 3L, () -> most.coefficient(2, 5));
        Check.due("above it", 0L, () -> most.coefficient(2, 6));
    }

    /** Promise 5, "0 when there is none": of is not 0, 1 or 2. */
    private static void noSuchPolynomial() {
        PartsDesk desk = Check.desk("7x^6+5", "(x-1)^3(x-1)^2");
        for (int of : new int[] {-1, 3, 4, 9, 256, 257, 258, LEAST, LEAST + 1, GREATEST}) {
            for (int i = -1; i <= 7; i++) {
                int power = i;
                Check.due("coefficient(" + of + ", " + i + ")", 0L, () -> desk.coefficient(of, power));
            }
        }
    }

    /** Promise 6, "0 when it is none". */
    private static void noRoot() {
        PartsDesk ends = Check.desk("1", "(x+3)^2(x-3)^3");
        Check.due("the least root", 2, () -> ends.many(-3));
        Check.due("the greatest root", 3, () -> ends.many(3));
        for (int root = -2; root <= 2; root++) {
            int which = root;
            Check.due("many(" + root + ")", 0, () -> ends.many(which));
        }
        for (int root : NEVER_ROOTS) {
            Check.due("many(" + root + ")", 0, () -> ends.many(root));
        }
        Check.due("many(9)", 0, () -> ends.many(9));
        Check.due("a root of the numerator alone", 0, () -> Check.desk("x-1", "(x)").many(1));
        Check.due("a root of both", 1, () -> Check.desk("x-1", "(x-1)").many(1));
    }

    /** Promise 7, "a(r, k)": k from 1 to how often r comes. */
    private static void firstAndLastPart() {
        PartsDesk desk = Check.desk("x^4+1", "(x-3)^3(x+3)^2");
        // Worked out by hand from (x^4 + 1) / (x + 3)^2 at 3, and (x^4 + 1) / (x - 3)^3 at -3.
        Check.due("a(3, 3)", "41/18", () -> Check.part(desk, 3, 3));
        Check.due("a(-3, 2)", "-41/108", () -> Check.part(desk, -3, 2));
        Check.due("a(3, 1) + a(-3, 1)", "1", () -> sumOfFirst(desk, 3, -3));
    }

    /** Only for fractions whose sum is whole: x^4 / x^5 leaves 1 / x for great x. */
    private static String sumOfFirst(PartsDesk desk, int one, int other) {
        long below = desk.part(one, 1, 1) * desk.part(other, 1, 1);
        long above = desk.part(one, 1, 0) * desk.part(other, 1, 1) + desk.part(other, 1, 0) * desk.part(one, 1, 1);
        return above % below == 0 ? "" + above / below : above + "/" + below;
    }

    /** Promise 7, "IllegalArgumentException when there is no such part". */
    private static void noSuchPart() {
        for (int w = 0; w <= 1; w++) {
            int side = w;
            for (int k : new int[] {0, -1, 4, 5, 6, 257, LEAST, LEAST + 1, GREATEST}) {
                refused("part(2, " + k + ", " + w + ")", desk -> () -> desk.part(2, k, side));
            }
            for (int k : new int[] {0, -1, 3, LEAST, GREATEST}) {
                refused("part(-1, " + k + ", " + w + ")", desk -> () -> desk.part(-1, k, side));
            }
            for (int root : new int[] {-3, -2, 0, 1, 3, 9}) {
                refused("part(" + root + ", 1, " + w + ")", desk -> () -> desk.part(root, 1, side));
                refused("part(" + root + ", 0, " + w + ")", desk -> () -> desk.part(root, 0, side));
            }
            for (int root : NEVER_ROOTS) {
                refused("part(" + root + ", 1, " + w + ")", desk -> () -> desk.part(root, 1, side));
            }
        }
    }

    /** Promise 7, "or w": there are the sides 0 and 1 alone. */
    private static void noSuchSideOfAPart() {
        for (int w : NO_SIDES) {
            refused("part(2, 1, " + w + ")", desk -> () -> desk.part(2, 1, w));
            refused("part(2, 3, " + w + ")", desk -> () -> desk.part(2, 3, w));
            refused("part(0, 0, " + w + ")", desk -> () -> desk.part(0, 0, w));
        }
    }

    /** Promise 8, "the coefficient of x^i (root = 9, k = i from 1 on": the first and the last that is not 0. */
    private static void polynomialOfTheIntegral() {
        PartsDesk desk = Check.desk("5x^6+7x", "(x)");
        Check.due("x^1", "7/1", () -> Check.integral(desk, 9, 1));
        Check.due("x^2", "0/1", () -> Check.integral(desk, 9, 2));
        Check.due("x^5", "0/1", () -> Check.integral(desk, 9, 5));
        Check.due("x^6", "5/6", () -> Check.integral(desk, 9, 6));
        Check.due("x^1 without a quotient", "0/1", () -> Check.integral(new PartsDesk(), 9, 1));
    }

    /** Promise 8, "0 / 1 beyond". */
    private static void beyondThePolynomial() {
        PartsDesk desk = Check.desk("5x^6+7x", "(x)");
        for (int k : new int[] {7, 8, 9, 10, 256, 257, 262, 1000000, GREATEST - 1, GREATEST}) {
            Check.due("numerator of x^" + k, 0L, () -> desk.integral(9, k, 0));
            Check.due("denominator of x^" + k, 1L, () -> desk.integral(9, k, 1));
        }
        PartsDesk low = Check.desk("x^2", "(x)");
        Check.due("the last", "1/2", () -> Check.integral(low, 9, 2));
        Check.due("the first beyond", "0/1", () -> Check.integral(low, 9, 3));
    }

    /** Promise 8, "k is not so": root 9 has no k below 1. */
    private static void noPowerBelowOne() {
        for (int w = 0; w <= 1; w++) {
            int side = w;
            for (int k : new int[] {0, -1, -2, LEAST, LEAST + 1}) {
                refused("integral(9, " + k + ", " + w + ")", desk -> () -> desk.integral(9, k, side));
            }
        }
    }

    /** Promise 8, "of 1 / (x - root)^k (k from 1 on), or of the logarithm (k = 0)": up to how often it comes less 1. */
    private static void firstAndLastOfARoot() {
        PartsDesk five = Check.desk("x^4+x^3+x^2+x+1", "(x)^3(x)^2");
        Check.due("logarithm", "1/1", () -> Check.integral(five, 0, 0));
        Check.due("k = 1", "-1/1", () -> Check.integral(five, 0, 1));
        Check.due("k = 4", "-1/4", () -> Check.integral(five, 0, 4));
        Check.refusedArgument("k = 5", () -> five.integral(0, 5, 0));
        Check.refusedArgument("k = 5", () -> five.integral(0, 5, 1));
        PartsDesk once = Check.desk("4", "(x+3)");
        Check.due("logarithm of a root that comes once", "4/1", () -> Check.integral(once, -3, 0));
        Check.refusedArgument("k = 1 of a root that comes once", () -> once.integral(-3, 1, 0));
        Check.refusedArgument("k = 1 of a root that comes once", () -> once.integral(-3, 1, 1));
    }

    /** Promise 8, "k is not so (for a root, at most how often it comes less 1)". */
    private static void noSuchOfARoot() {
        for (int w = 0; w <= 1; w++) {
            int side = w;
            for (int k : new int[] {-1, -2, 3, 4, 5, 256, LEAST, LEAST + 1, GREATEST}) {
                refused("integral(2, " + k + ", " + w + ")", desk -> () -> desk.integral(2, k, side));
            }
            for (int k : new int[] {-1, 2, 3, LEAST, GREATEST}) {
                refused("integral(-1, " + k + ", " + w + ")", desk -> () -> desk.integral(-1, k, side));
            }
        }
    }

    /** Promise 8, "IllegalArgumentException when root is neither 9 nor a root". */
    private static void neither9NorARoot() {
        for (int k = -1; k <= 1; k++) {
            int which = k;
            for (int root : new int[] {-3, -2, 0, 1, 3}) {
                refused("integral(" + root + ", " + k + ", 0)", desk -> () -> desk.integral(root, which, 0));
            }
            for (int root : NEVER_ROOTS) {
                refused("integral(" + root + ", " + k + ", 1)", desk -> () -> desk.integral(root, which, 1));
            }
        }
    }

    /** Promise 8, "or w is not 0 or 1": for the polynomial, beyond it, for a power and for a logarithm. */
    private static void noSuchSideOfTheIntegral() {
        for (int w : NO_SIDES) {
            refused("integral(9, 1, " + w + ")", desk -> () -> desk.integral(9, 1, w));
            refused("integral(9, 99, " + w + ")", desk -> () -> desk.integral(9, 99, w));
            refused("integral(2, 1, " + w + ")", desk -> () -> desk.integral(2, 1, w));
            refused("integral(2, 0, " + w + ")", desk -> () -> desk.integral(2, 0, w));
            refused("integral(0, 0, " + w + ")", desk -> () -> desk.integral(0, 0, w));
        }
    }

    /** Promise 9, "-20 .. 20". */
    private static void firstAndLastWholeNumber() {
        PartsDesk desk = Check.desk("x+1", "(x-1)");
        Check.due("value at -20", "19/21", () -> Check.value(desk, -20));
        Check.due("value at 20", "21/19", () -> Check.value(desk, 20));
        Check.due("value at 0", "-1/1", () -> Check.value(desk, 0));
        Check.due("value at 2, next to the root", "3/1", () -> Check.value(desk, 2));
        Check.due("value at -1", "0/1", () -> Check.value(desk, -1));
        Check.due("value at 9, which is no root", "5/4", () -> Check.value(desk, 9));
        // The greatest amounts that there are: 495 * 20^6 above, 23^5 below.
        PartsDesk great = Check.desk("-99x^6-99x^6-99x^6-99x^6-99x^6", "(x-3)^3(x-3)^2");
        Check.due("value at -20", "31680000000/6436343", () -> Check.value(great, -20));
        Check.due("value at 20", "-31680000000/1419857", () -> Check.value(great, 20));
    }

    /** Promise 9, "IllegalArgumentException when t is ... not so". */
    private static void noSuchWholeNumber() {
        for (int w = 0; w <= 1; w++) {
            int side = w;
            for (int t : new int[] {21, -21, 22, -22, 100, 256, 260, LEAST, LEAST + 1, GREATEST, GREATEST - 1}) {
                refused("value(" + t + ", " + w + ")", desk -> () -> desk.value(t, side));
            }
        }
    }

    /** Promise 9, "IllegalArgumentException when t is a root": also where the numerator cancels it. */
    private static void noValueAtARoot() {
        for (int w = 0; w <= 1; w++) {
            int side = w;
            refused("value(2, " + w + ")", desk -> () -> desk.value(2, side));
            refused("value(-1, " + w + ")", desk -> () -> desk.value(-1, side));
            PartsDesk cancelled = Check.desk("x-1", "(x-1)");
            Check.refusedAndKept("a cancelled root", cancelled, () -> cancelled.value(1, side));
            PartsDesk zero = new PartsDesk();
            Check.refusedAndKept("0 / x at 0", zero, () -> zero.value(0, side));
        }
        for (int root = -3; root <= 3; root++) {
            int[] often = new int[7];
            often[root + 3] = 1;
            PartsDesk desk = Check.desk("1", Texts.product(often));
            for (int t = -20; t <= 20; t++) {
                int which = t;
                String below = t > root ? "1/" + (t - root) : "-1/" + (root - t);
                String due = t == root ? "throws.IllegalArgumentException/throws.IllegalArgumentException" : below;
                Check.due("1 / (x - " + root + ") at " + t, due, () -> Check.value(desk, which));
            }
        }
    }

    /** Promise 9, "or w is not 0 or 1". */
    private static void noSuchSideOfAValue() {
        for (int w : NO_SIDES) {
            refused("value(0, " + w + ")", desk -> () -> desk.value(0, w));
            refused("value(20, " + w + ")", desk -> () -> desk.value(20, w));
            refused("value(2, " + w + ")", desk -> () -> desk.value(2, w));
            refused("value(21, " + w + ")", desk -> () -> desk.value(21, w));
        }
    }

    private static void refusedCallsLeaveTheDraft() {
        PartsDesk desk = sample();
        Check.write(desk, "4x^");
        Check.refusedArgument("part", () -> desk.part(0, 1, 0));
        Check.refusedArgument("integral", () -> desk.integral(9, 0, 0));
        Check.refusedArgument("value", () -> desk.value(21, 0));
        Check.refusedArgument("at", () -> desk.at(101.0));
        Check.refusedArgument("byParts", () -> desk.byParts(101.0));
        Check.due("coefficient", 0L, () -> desk.coefficient(3, 0));
        Check.due("many", 0, () -> desk.many(4));
        Check.write(desk, "5");
        Check.due("the draft is there still", 5, desk::numerator);
        Check.due("what it says", "0 0 0 0 0 4 0", () -> Check.coefficients(desk, 0));
    }

    /** Nothing of an earlier function stays, whichever of its two halves changes. */
    private static void changesFromOneFunctionToTheNext() {
        String[] above = {"x^6-3x^2+12", "0", "7", "-99x^6", "x"};
        String[] below = {"(x)^2(x-2)^3", "(x+3)", "(x-3)^3(x-3)^2", "(x)"};
        PartsDesk desk = new PartsDesk();
        for (int n = 0; n < 3; n++) {
            read(desk, above[n], true);
            read(desk, below[n], false);
            Check.due("after " + above[n] + " and " + below[n], told(above[n], below[n]), () -> Check.told(desk));
        }
        PartsDesk later = Check.desk(above[3], below[2]);
        read(later, above[4], true);
        Check.due("another numerator", told(above[4], below[2]), () -> Check.told(later));
        read(later, below[3], false);
        Check.due("another denominator", told(above[4], below[3]), () -> Check.told(later));
    }

    /** "An object is used for at most 512 calls": the 512th is answered as the first. */
    private static void lastPromisedCall() {
        PartsDesk desk = new PartsDesk();
        for (int n = 1; n <= 488; n++) {
            Check.due("call " + n, 1, () -> desk.many(0));
        }
        Check.write(desk, "7x^2");
        Check.due("call 493", 2, desk::numerator);
        Check.write(desk, "(x-2)(x+1)");
        Check.due("call 504", 2, desk::denominator);
        Check.due("call 505", 7L, () -> desk.coefficient(0, 2));
        Check.due("call 506", 1, () -> desk.many(2));
        Check.due("calls 507 and 508", "28/3", () -> Check.part(desk, 2, 1));
        Check.due("call 509", 7L, () -> desk.integral(9, 1, 0));
        Check.due("call 510", -7L, () -> desk.value(1, 0));
        Check.refusedArgument("call 511", () -> desk.part(2, 2, 0));
        Check.due("call 512", -3.5, () -> desk.at(1.0));
    }

    private static String told(String above, String below) {
        return Check.told(Check.desk(above, below));
    }

    private static void read(PartsDesk desk, String text, boolean isNumerator) {
        Check.write(desk, text);
        Supplier<Object> call = isNumerator ? desk::numerator : desk::denominator;
        Check.due("read " + text, false, () -> Check.answer(call).startsWith("throws."));
    }

    /** A function with the roots 2, three times, and -1, twice, and a quotient. */
    private static PartsDesk sample() {
        return Check.desk("5x^6-x^3+7", "(x-2)^3(x+1)^2");
    }

    private interface Asking {
        Supplier<Object> of(PartsDesk desk);
    }

    private static void refused(String what, Asking asking) {
        PartsDesk desk = sample();
        Check.refusedAndKept(what, desk, asking.of(desk));
    }
}
