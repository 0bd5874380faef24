import java.util.Random;
import java.util.regex.Matcher;
import java.util.regex.Pattern;

/** Promises 1 to 6: a new object, and what is read from drafts. */
public final class ReadingTest {
    private static final String ONE_TERM = "(\\d{1,2}|\\d{0,2}x(\\^[0-6])?)";
    private static final Pattern POLYNOMIAL = Pattern.compile("[+-]?" + ONE_TERM + "([+-]" + ONE_TERM + ")*");
    private static final Pattern TERM = Pattern.compile("([+-]?)(\\d{0,2})(x?)(\\^(\\d))?");
    private static final Pattern PRODUCT = Pattern.compile("(\\(x([+-][1-3])?\\)(\\^[1-3])?)+");
    private static final Pattern FACTOR = Pattern.compile("\\(x([+-]\\d)?\\)(\\^(\\d))?");

    public static void main(String[] args) {
        newObject();
        write();
        numerator();
        wrongNumerators();
        denominator();
        wrongDenominators();
        tooManyRoots();
        coefficient();
        many();
        numeratorsOf(new String[] {"x", "^", "+", "-", "0", "6", "7", " ", "("}, 5, "");
        denominatorsOf(new String[] {"(x)", "(x", "-", "3", "4", ")", "^"}, 6, "");
        randomNumerators();
        randomDenominators();
        Check.end();
    }

    private static void newObject() {
        PartsDesk desk = new PartsDesk();
        Check.due("new: numerator", "0 0 0 0 0 0 0", () -> Check.coefficients(desk, 0));
        Check.due("new: denominator", "0 1 0 0 0 0 0", () -> Check.coefficients(desk, 1));
        Check.due("new: quotient", "0 0 0 0 0 0 0", () -> Check.coefficients(desk, 2));
        Check.due("new: roots", "0001000", () -> Check.roots(desk));
        Check.due("new: part", "0/1", () -> Check.part(desk, 0, 1));
        Check.due("new: logarithm", "0/1", () -> Check.integral(desk, 0, 0));
        Check.due("new: value at -20", "0/1", () -> Check.value(desk, -20));
        Check.due("new: at(2.0)", 0.0, () -> desk.at(2.0));
        Check.due("new: byParts(2.0)", 0.0, () -> desk.byParts(2.0));
        Check.refusedArgument("new: the draft is empty", desk::numerator);
        Check.refusedArgument("new: the draft is empty", desk::denominator);
    }

    private static void write() {
        for (int c = 0; c <= Character.MAX_VALUE; c++) {
            if (c < 32 || c > 126) {
                PartsDesk fresh = new PartsDesk();
                char wrong = (char) c;
                Check.due("write of " + c, false, () -> fresh.write(wrong));
            }
        }
        for (int c = 32; c <= 126; c++) {
            PartsDesk fresh = new PartsDesk();
            char right = (char) c;
            Check.due("write of " + c, true, () -> fresh.write(right));
        }
        PartsDesk desk = new PartsDesk();
        Check.write(desk, "x+x+x+x+x+x+x+x+x+x+x+x+x+x+xx");
        Check.due("the 31st", false, () -> desk.write('1'));
        Check.refusedArgument("30 characters with xx at the end", desk::numerator);
        Check.write(desk, "-x-x-x-x-x-x-x-x-x-x-x-x-x-x-x");
        Check.due("the 31st", false, () -> desk.write('x'));
        Check.due("30 characters", 1, desk::numerator);
        Check.due("30 characters", -15L, () -> desk.coefficient(0, 1));
    }

    private static void numerator() {
        Texts.isPolynomial("0", 0, "0 0 0 0 0 0 0");
        Texts.isPolynomial("-0", 0, "0 0 0 0 0 0 0");
        Texts.isPolynomial("0x^6", 0, "0 0 0 0 0 0 0");
        Texts.isPolynomial("00", 0, "0 0 0 0 0 0 0");
        Texts.isPolynomial("07x", 1, "0 7 0 0 0 0 0");
        Texts.isPolynomial("99", 0, "99 0 0 0 0 0 0");
        Texts.isPolynomial("-99", 0, "-99 0 0 0 0 0 0");
        Texts.isPolynomial("+x", 1, "0 1 0 0 0 0 0");
        Texts.isPolynomial("-x^0", 0, "-1 0 0 0 0 0 0");
        Texts.isPolynomial("3x^0+4", 0, "7 0 0 0 0 0 0");
        Texts.isPolynomial("x^1-12x^2", 2, "0 1 -12 0 0 0 0");
        Texts.isPolynomial("1-x+2x^2-3x^3+4x^4-5x^5+6x^6", 6, "1 -1 2 -3 4 -5 6");
        Texts.isPolynomial("x^6-x^6+x^3", 3, "0 0 0 1 0 0 0");
        Texts.isPolynomial("99x^6+99x^6+99x^6+99x^6+99x^6", 6, "0 0 0 0 0 0 495");
        Texts.isPolynomial("-x+2x-x", 0, "0 0 0 0 0 0 0");
    }

    private static void wrongNumerators() {
        String[] texts = {"+", "-", "--x", "+-1", "x+", "1-", "123", "x^", "x^7", "x^66", "x^-1", "2^3", "12^3x",
            "xx", "x2", "2 x", " x", "x ", "X", "y", "2*x", "(x)", "x^x", "^2", "2x3", "1.5", "x++1", "a+x", "x/2",
            ":", "1:", "/", "1/", "x^/"};
        for (String text : texts) {
            Texts.isNoPolynomial(text);
        }
    }

    private static void denominator() {
        Texts.isProduct("(x)", 1, "0 1 0 0 0 0 0", "0001000");
        Texts.isProduct("(x)^1", 1, "0 1 0 0 0 0 0", "0001000");
        Texts.isProduct("(x+3)", 1, "3 1 0 0 0 0 0", "1000000");
        Texts.isProduct("(x-3)", 1, "-3 1 0 0 0 0 0", "0000001");
        Texts.isProduct("(x-2)^3", 3, "-8 12 -6 1 0 0 0", "0000030");
        Texts.isProduct("(x+1)(x-1)", 2, "-1 0 1 0 0 0 0", "0010100");
        Texts.isProduct("(x+2)(x)(x+2)", 3, "0 4 4 1 0 0 0", "0201000");
        Texts.isProduct("(x)^3(x)^2", 5, "0 0 0 0 0 1 0", "0005000");
        Texts.isProduct("(x-1)(x-1)(x-1)(x-1)(x-1)", 5, "-1 5 -10 10 -5 1 0", "0000500");
        Texts.isProduct("(x+3)^2(x-3)^3", 5, "-243 81 54 -18 -3 1 0", "2000003");
    }

    private static void wrongDenominators() {
        String[] texts = {"x", "1", "()", "(", "(x", "x)", "(x))", "((x))", "(x+)", "(x-0)", "(x+4)", "(x-4)", "(x+11)", "(1+x)",
            "(-x)", "(x)^", "(x)^0", "(x)^4", "(x)^11", "(x)^-1", "(x)*(x)", "(x) (x)", " (x)", "(x) ", "(X)", "(x1)",
            "(x+-1)", "(x^2)", "(2x+1)", "(x)2", "(x)^3(x)^3(", "(x)^3(x)^3(x)^4", "(y)(x)"};
        for (String text : texts) {
            Texts.isNoProduct(text);
        }
    }

    private static void tooManyRoots() {
        String[] texts = {"(x)^3(x)^3", "(x+1)^2(x-1)^2(x)^2", "(x)(x)(x)(x)(x)(x)", "(x)^3(x)^3(x)^3(x)^3(x)^3(x)^3"};
        for (String text : texts) {
            Texts.hasTooManyRoots(text);
        }
    }

    private static void coefficient() {
        PartsDesk desk = Check.desk("2x^6+1", "(x-1)");
        Check.due("quotient", "2 2 2 2 2 2 0", () -> Check.coefficients(desk, 2));
        int[] beyond = {-1, 7, 8, 100, Integer.MIN_VALUE, Integer.MAX_VALUE};
        for (int of = 0; of <= 2; of++) {
            for (int i : beyond) {
                int which = of;
                Check.due("coefficient " + of + " " + i, 0L, () -> desk.coefficient(which, i));
            }
        }
        for (int of : new int[] {-1, 3, Integer.MIN_VALUE, Integer.MAX_VALUE}) {
            Check.due("coefficient of " + of, "0 0 0 0 0 0 0", () -> Check.coefficients(desk, of));
        }
        PartsDesk low = Check.desk("x-1", "(x+1)^2");
        Check.due("quotient of a lower numerator", "0 0 0 0 0 0 0", () -> Check.coefficients(low, 2));
    }

    private static void many() {
        PartsDesk desk = Check.desk("1", "(x+3)(x-3)^2(x)^2");
        Check.due("roots", "1002002", () -> Check.roots(desk));
        for (int root : new int[] {-4, 4, 9, Integer.MIN_VALUE, Integer.MAX_VALUE}) {
            Check.due("many of " + root, 0, () -> desk.many(root));
        }
    }

    /** Every text of at most so many pieces. */
    private static void numeratorsOf(String[] pieces, int most, String soFar) {
        numeratorAsThePatternSays(soFar);
        for (int i = 0; most > 0 && i < pieces.length; i++) {
            numeratorsOf(pieces, most - 1, soFar + pieces[i]);
        }
    }

    private static void denominatorsOf(String[] pieces, int most, String soFar) {
        denominatorAsThePatternSays(soFar);
        for (int i = 0; most > 0 && i < pieces.length; i++) {
            denominatorsOf(pieces, most - 1, soFar + pieces[i]);
        }
    }

    private static void randomNumerators() {
        Random random = new Random(1);
        for (int n = 0; n < 20000; n++) {
            numeratorAsThePatternSays(randomText(random, "xx^^+-+-0123456789 (", 12));
        }
    }

    private static void numeratorAsThePatternSays(String text) {
        PartsDesk desk = new PartsDesk();
        Check.write(desk, text);
        boolean isRight = POLYNOMIAL.matcher(text).matches();
        Object due = isRight ? degree(terms(text)) : "throws.IllegalArgumentException";
        Check.due("numerator " + text, due, desk::numerator);
        String coefficients = isRight ? joined(terms(text)) : "0 0 0 0 0 0 0";
        Check.due("coefficients of " + text, coefficients, () -> Check.coefficients(desk, 0));
    }

    private static void randomDenominators() {
        Random random = new Random(2);
        String[] pieces = {"(x)", "(x+1)", "(x-2)", "(x+3)", "(x-3)", "^2", "^3", "^1", "(", "x", ")", "^", "4", "0"};
        for (int n = 0; n < 20000; n++) {
            StringBuilder made = new StringBuilder();
            int count = random.nextInt(6);
            for (int i = 0; i < count; i++) {
                made.append(pieces[random.nextInt(random.nextInt(4) == 0 ? pieces.length : 7)]);
            }
            denominatorAsThePatternSays(made.toString());
        }
    }

    private static void denominatorAsThePatternSays(String text) {
        int[] often = roots(text);
        int degree = often[7];
        PartsDesk desk = new PartsDesk();
        Check.write(desk, text);
        boolean isRight = PRODUCT.matcher(text).matches();
        Object due = !isRight ? "throws.IllegalArgumentException"
            : degree > 5 ? "throws.IllegalStateException" : (Object) degree;
        Check.due("denominator " + text, due, desk::denominator);
        String roots = isRight && degree <= 5 ? joined(often).substring(0, 13).replace(" ", "") : "0001000";
        Check.due("roots of " + text, roots, () -> Check.roots(desk));
    }

    private static String randomText(Random random, String characters, int most) {
        StringBuilder text = new StringBuilder();
        int length = random.nextInt(most + 1);
        for (int i = 0; i < length; i++) {
            // Mostly terms, so that many texts are right ones.
            boolean isTerm = random.nextInt(2) == 0;
            text.append(isTerm ? "+" + random.nextInt(100) + "x^" + random.nextInt(7)
                : "" + characters.charAt(random.nextInt(characters.length())));
        }
        return text.length() > 30 ? text.substring(0, 30) : text.toString();
    }

    private static int[] terms(String text) {
        int[] sums = new int[7];
        Matcher matcher = TERM.matcher(text);
        while (matcher.find()) {
            if (matcher.end() > matcher.start()) {
                int amount = matcher.group(2).isEmpty() ? 1 : Integer.parseInt(matcher.group(2));
                String power = matcher.group(5);
                int at = matcher.group(3).isEmpty() ? 0 : power == null ? 1 : Integer.parseInt(power);
                sums[at] += matcher.group(1).equals("-") ? -amount : amount;
            }
        }
        return sums;
    }

    /** How often each root comes, and behind these all together. */
    private static int[] roots(String text) {
        int[] often = new int[8];
        Matcher matcher = FACTOR.matcher(text);
        while (matcher.find()) {
            int n = matcher.group(1) == null ? 0 : -Integer.parseInt(matcher.group(1));
            int times = matcher.group(3) == null ? 1 : Integer.parseInt(matcher.group(3));
            often[n + 3] += times;
            often[7] += times;
        }
        return often;
    }

    private static int degree(int[] sums) {
        int degree = 0;
        for (int i = 0; i < sums.length; i++) {
            degree = sums[i] == 0 ? degree : i;
        }
        return degree;
    }

    private static String joined(int[] numbers) {
        StringBuilder text = new StringBuilder();
        for (int i = 0; i < numbers.length; i++) {
            text.append(i == 0 ? "" : " ").append(numbers[i]);
        }
        return text.toString();
    }
}
