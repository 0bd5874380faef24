/** What the project's tests share about texts: which ones are right, and what the wrong ones leave. */
final class Texts {
    /** The function that an object has before a draft is refused, and must have after it. */
    private static final String KEPT_ABOVE = "5x^2+3";
    private static final String KEPT_BELOW = "(x-1)";

    private Texts() {
    }

    static void isPolynomial(String text, int degree, String coefficients) {
        PartsDesk desk = new PartsDesk();
        Check.write(desk, text);
        Check.due("numerator " + text, degree, desk::numerator);
        Check.due("coefficients of " + text, coefficients, () -> Check.coefficients(desk, 0));
        Check.due("the denominator stays", "0 1 0 0 0 0 0", () -> Check.coefficients(desk, 1));
        Check.due("the roots stay", "0001000", () -> Check.roots(desk));
        Check.refusedArgument("the draft is empty after " + text, desk::numerator);
        Check.due("and that keeps the coefficients", coefficients, () -> Check.coefficients(desk, 0));
    }

    static void isNoPolynomial(String text) {
        PartsDesk desk = Check.desk(KEPT_ABOVE, KEPT_BELOW);
        Check.write(desk, text);
        Check.refusedAndKept("numerator " + text, desk, desk::numerator);
        draftIsEmpty("numerator " + text, desk);
    }

    static void isProduct(String text, int degree, String coefficients, String roots) {
        PartsDesk desk = new PartsDesk();
        Check.write(desk, text);
        Check.due("denominator " + text, degree, desk::denominator);
        Check.due("coefficients of " + text, coefficients, () -> Check.coefficients(desk, 1));
        Check.due("roots of " + text, roots, () -> Check.roots(desk));
        Check.due("the numerator stays", "0 0 0 0 0 0 0", () -> Check.coefficients(desk, 0));
        Check.refusedArgument("the draft is empty after " + text, desk::denominator);
        Check.due("and that keeps the roots", roots, () -> Check.roots(desk));
    }

    static void isNoProduct(String text) {
        PartsDesk desk = Check.desk(KEPT_ABOVE, KEPT_BELOW);
        Check.write(desk, text);
        Check.refusedAndKept("denominator " + text, desk, desk::denominator);
        draftIsEmpty("denominator " + text, desk);
    }

    static void hasTooManyRoots(String text) {
        PartsDesk desk = Check.desk(KEPT_ABOVE, KEPT_BELOW);
        Check.write(desk, text);
        String before = Check.told(desk);
        Check.refusedState("denominator " + text, desk::denominator);
        Check.due("the function after denominator " + text, before, () -> Check.told(desk));
        draftIsEmpty("denominator " + text, desk);
    }

    /** A draft of 30 characters fits and is read from its first one; so nothing was left in it. */
    static void draftIsEmpty(String after, PartsDesk desk) {
        Check.write(desk, "-x-x-x-x-x-x-x-x-x-x-x-x-x-x-x");
        Check.due("no room for a 31st after " + after, false, () -> desk.write('x'));
        Check.due("a full draft after " + after, 1, desk::numerator);
        Check.due("what it says after " + after, "0 -15 0 0 0 0 0", () -> Check.coefficients(desk, 0));
    }

    /** How often each root -3 .. 3 comes, from a number's digits to the base 7; answers their sum. */
    static int spread(int code, int[] often) {
        int left = code;
        int sum = 0;
        for (int i = 0; i < 7; i++) {
            often[i] = left % 7;
            left /= 7;
            sum += often[i];
        }
        return sum;
    }

    /** A product's text with these roots, each coming at most 6 times, the greatest first. */
    static String product(int[] often) {
        StringBuilder text = new StringBuilder();
        for (int i = 6; i >= 0; i--) {
            String factor = i == 3 ? "(x)" : i < 3 ? "(x+" + (3 - i) + ")" : "(x-" + (i - 3) + ")";
            text.append(power(factor, Math.min(often[i], 3))).append(power(factor, Math.max(often[i] - 3, 0)));
        }
        return text.toString();
    }

    private static String power(String factor, int times) {
        return times == 0 ? "" : times == 1 ? factor : factor + "^" + times;
    }
}
