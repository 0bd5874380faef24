/** Promises 7 to 9: the parts, the integral and the exact values, on functions worked out by hand. */
public final class PartsTest {
    private static final int[] NO_SIDES = {-1, 2, 3, Integer.MIN_VALUE, Integer.MAX_VALUE};
    private static final int[] NO_ROOTS = {-4, -2, 1, 4, 8, 10, Integer.MIN_VALUE, Integer.MAX_VALUE};

    public static void main(String[] args) {
        parts();
        noParts();
        integrals();
        noIntegrals();
        values();
        noValues();
        changes();
        Check.end();
    }

    private static void parts() {
        PartsDesk two = Check.desk("1", "(x-1)(x+1)");
        Check.due("1 / (x^2 - 1) at 1", "1/2", () -> Check.part(two, 1, 1));
        Check.due("1 / (x^2 - 1) at -1", "-1/2", () -> Check.part(two, -1, 1));

        PartsDesk mixed = Check.desk("x^6-3x^2+12", "(x)^2(x-2)^3");
        Check.due("quotient", "6 1 0 0 0 0 0", () -> Check.coefficients(mixed, 2));
        Check.due("a(0, 1)", "-9/4", () -> Check.part(mixed, 0, 1));
        Check.due("a(0, 2)", "-3/2", () -> Check.part(mixed, 0, 2));
        Check.due("a(2, 1)", "105/4", () -> Check.part(mixed, 2, 1));
        Check.due("a(2, 2)", "29/1", () -> Check.part(mixed, 2, 2));
        Check.due("a(2, 3)", "16/1", () -> Check.part(mixed, 2, 3));

        // (x^6) / (x - 1)^5, by the powers of 1 + (x - 1).
        PartsDesk five = Check.desk("x^6", "(x-1)^3(x-1)^2");
        Check.due("quotient", "5 1 0 0 0 0 0", () -> Check.coefficients(five, 2));
        String[] due = {"15/1", "20/1", "15/1", "6/1", "1/1"};
        for (int k = 1; k <= 5; k++) {
            int which = k;
            Check.due("a(1, " + k + ")", due[k - 1], () -> Check.part(five, 1, which));
        }

        // What cancels leaves the parts there, but 0 / 1.
        PartsDesk cancels = Check.desk("x^2-x", "(x)(x-1)^2");
        Check.due("a(0, 1)", "0/1", () -> Check.part(cancels, 0, 1));
        Check.due("a(1, 1)", "1/1", () -> Check.part(cancels, 1, 1));
        Check.due("a(1, 2)", "0/1", () -> Check.part(cancels, 1, 2));

        // 1 / ((-3 - 3)^4) and the like: the largest denominators.
        PartsDesk far = Check.desk("1", "(x+3)(x-3)^2(x-3)^2");
        Check.due("a(-3, 1)", "1/1296", () -> Check.part(far, -3, 1));
        Check.due("a(3, 1)", "-1/1296", () -> Check.part(far, 3, 1));
        Check.due("a(3, 2)", "1/216", () -> Check.part(far, 3, 2));
        Check.due("a(3, 3)", "-1/36", () -> Check.part(far, 3, 3));
        Check.due("a(3, 4)", "1/6", () -> Check.part(far, 3, 4));
    }

    private static void noParts() {
        PartsDesk desk = Check.desk("x+5", "(x)^2(x+1)^3");
        for (int w = 0; w <= 1; w++) {
            int side = w;
            for (int k : new int[] {-1, 0, 3, 4, Integer.MIN_VALUE, Integer.MAX_VALUE}) {
                Check.refusedArgument("part(0, " + k + ")", () -> desk.part(0, k, side));
            }
            Check.refusedArgument("part(-1, 4)", () -> desk.part(-1, 4, side));
            for (int root : NO_ROOTS) {
                Check.refusedArgument("part(" + root + ", 1)", () -> desk.part(root, 1, side));
                Check.refusedArgument("part(" + root + ", 0)", () -> desk.part(root, 0, side));
            }
            Check.refusedArgument("part(9, 1)", () -> desk.part(9, 1, side));
        }
        for (int w : NO_SIDES) {
            Check.refusedArgument("part(0, 1, " + w + ")", () -> desk.part(0, 1, w));
        }
    }

    private static void integrals() {
        PartsDesk mixed = Check.desk("x^6-3x^2+12", "(x)^2(x-2)^3");
        Check.due("x", "6/1", () -> Check.integral(mixed, 9, 1));
        Check.due("x^2", "1/2", () -> Check.integral(mixed, 9, 2));
        for (int k : new int[] {3, 6, 7, 8, 1000, Integer.MAX_VALUE}) {
            Check.due("x^" + k, "0/1", () -> Check.integral(mixed, 9, k));
        }
        Check.due("logarithm of x", "-9/4", () -> Check.integral(mixed, 0, 0));
        Check.due("1 / x", "3/2", () -> Check.integral(mixed, 0, 1));
        Check.due("logarithm of x - 2", "105/4", () -> Check.integral(mixed, 2, 0));
        Check.due("1 / (x - 2)", "-29/1", () -> Check.integral(mixed, 2, 1));
        Check.due("1 / (x - 2)^2", "-8/1", () -> Check.integral(mixed, 2, 2));

        PartsDesk five = Check.desk("x^6", "(x-1)^3(x-1)^2");
        String[] due = {"15/1", "-20/1", "-15/2", "-2/1", "-1/4"};
        for (int k = 0; k <= 4; k++) {
            int which = k;
            Check.due("1 / (x - 1)^" + k, due[k], () -> Check.integral(five, 1, which));
        }

        PartsDesk long6 = Check.desk("6x^6-9x^4+x^3+8x^2", "(x)");
        String[] powers = {"0/1", "4/1", "1/3", "-9/4", "0/1", "1/1", "0/1"};
        for (int k = 1; k <= 7; k++) {
            int which = k;
            Check.due("x^" + k, powers[k - 1], () -> Check.integral(long6, 9, which));
        }
    }

    private static void noIntegrals() {
        PartsDesk desk = Check.desk("x^4+5", "(x)^2(x+1)");
        for (int w = 0; w <= 1; w++) {
            int side = w;
            for (int k : new int[] {-1, 2, 3, Integer.MIN_VALUE, Integer.MAX_VALUE}) {
                Check.refusedArgument("integral(0, " + k + ")", () -> desk.integral(0, k, side));
            }
            Check.refusedArgument("integral(-1, 1)", () -> desk.integral(-1, 1, side));
            for (int k : new int[] {0, -1, Integer.MIN_VALUE}) {
                Check.refusedArgument("integral(9, " + k + ")", () -> desk.integral(9, k, side));
            }
            for (int root : NO_ROOTS) {
                Check.refusedArgument("integral(" + root + ", 0)", () -> desk.integral(root, 0, side));
                Check.refusedArgument("integral(" + root + ", 1)", () -> desk.integral(root, 1, side));
                Check.refusedArgument("integral(" + root + ", -1)", () -> desk.integral(root, -1, side));
            }
        }
        for (int w : NO_SIDES) {
            Check.refusedArgument("integral(0, 0, " + w + ")", () -> desk.integral(0, 0, w));
            Check.refusedArgument("integral(0, 1, " + w + ")", () -> desk.integral(0, 1, w));
            Check.refusedArgument("integral(9, 1, " + w + ")", () -> desk.integral(9, 1, w));
            Check.refusedArgument("integral(9, 99, " + w + ")", () -> desk.integral(9, 99, w));
        }
    }

    private static void values() {
        PartsDesk desk = Check.desk("2x-6", "(x-1)(x+1)");
        Check.due("value at 0", "6/1", () -> Check.value(desk, 0));
        Check.due("value at 3", "0/1", () -> Check.value(desk, 3));
        Check.due("value at 2", "-2/3", () -> Check.value(desk, 2));
        Check.due("value at -2", "-10/3", () -> Check.value(desk, -2));
        Check.due("value at 20", "34/399", () -> Check.value(desk, 20));
        Check.due("value at -20", "-46/399", () -> Check.value(desk, -20));
        PartsDesk odd = Check.desk("x+3", "(x-3)^3");
        Check.due("a denominator below 0", "-1/9", () -> Check.value(odd, 0));
        Check.due("0 by a denominator below 0", "0/1", () -> Check.value(odd, -3));
        PartsDesk great = Check.desk("99x^6+99x^6+99x^6+99x^6+99x^6", "(x)");
        Check.due("the greatest", "1584000000/1", () -> Check.value(great, 20));
    }

    private static void noValues() {
        PartsDesk desk = Check.desk("x^2-x", "(x-1)(x+3)");
        for (int w = 0; w <= 1; w++) {
            int side = w;
            for (int t : new int[] {1, -3, 21, -21, Integer.MIN_VALUE, Integer.MAX_VALUE}) {
                Check.refusedArgument("value(" + t + ")", () -> desk.value(t, side));
            }
        }
        for (int w : NO_SIDES) {
            Check.refusedArgument("value(0, " + w + ")", () -> desk.value(0, w));
        }
    }

    /** Numerator and denominator may change by turns; all that hangs on them changes with them. */
    private static void changes() {
        PartsDesk desk = Check.desk("x", "(x-1)^2");
        Check.due("a(1, 1) of x / (x - 1)^2", "1/1", () -> Check.part(desk, 1, 1));
        Check.write(desk, "x^3");
        Check.due("numerator x^3", 3, desk::numerator);
        Check.due("a(1, 1) of x^3 / (x - 1)^2", "3/1", () -> Check.part(desk, 1, 1));
        Check.due("quotient", "2 1 0 0 0 0 0", () -> Check.coefficients(desk, 2));
        Check.write(desk, "(x+2)");
        Check.due("denominator x + 2", 1, desk::denominator);
        Check.due("a(-2, 1) of x^3 / (x + 2)", "-8/1", () -> Check.part(desk, -2, 1));
        Check.due("quotient", "4 -2 1 0 0 0 0", () -> Check.coefficients(desk, 2));
        Check.refusedArgument("the old root", () -> desk.part(1, 1, 0));
        Check.due("x^3", "1/3", () -> Check.integral(desk, 9, 3));
    }
}
