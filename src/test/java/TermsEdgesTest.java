/** The document's "Terms", sentence by sentence: the last that is allowed, and the first that is not. */
public final class TermsEdgesTest {
    private static final String ZERO = "0 0 0 0 0 0 0";

    public static void main(String[] args) {
        oneOrTwoDigits();
        signMayBeLeftOutBeforeTheFirst();
        digitsOrXOrBoth();
        powerIsADigit0To6();
        oneWithoutDigits();
        samePowersAreAdded();
        noBlanks();
        atLeastOneTerm();
        oneOrMoreFactors();
        numberIsADigit1To3();
        powerOfAFactorIsADigit1To3();
        rootsAreMinus3To3();
        atMostFiveRoots();
        atFirstZeroByX();
        quotientByDegrees();
        partsForEachTimeARootComes();
        integralOfEachKind();
        withoutACommonDivisor();
        denominatorAboveZero();
        zeroIsZeroByOne();
        Check.end();
    }

    /** "digits (one or two)" */
    private static void oneOrTwoDigits() {
        for (int number = 0; number <= 99; number++) {
            Texts.isPolynomial("" + number, 0, number + " 0 0 0 0 0 0");
            Texts.isPolynomial("-" + number + "x^3", number == 0 ? 0 : 3, "0 0 0 " + -number + " 0 0 0");
        }
        for (int number = 0; number <= 9; number++) {
            Texts.isPolynomial("0" + number, 0, number + " 0 0 0 0 0 0");
        }
        String[] three = {"100", "000", "001", "999", "+100", "-100", "100x", "000x", "100x^2", "x+100", "1-100x", "1000"};
        for (String text : three) {
            Texts.isNoPolynomial(text);
        }
        // The characters next to the digits are none.
        for (String text : new String[] {"/", ":", "1/", "1:", "/1", ":1", "1/x", "1:x", "/x", ":x", "-/x", "x+/x", "x+:x"}) {
            Texts.isNoPolynomial(text);
        }
    }

    /** "a sign + or - (it may be left out before the first one)" */
    private static void signMayBeLeftOutBeforeTheFirst() {
        Texts.isPolynomial("2x+3", 1, "3 2 0 0 0 0 0");
        Texts.isPolynomial("+2x+3", 1, "3 2 0 0 0 0 0");
        Texts.isPolynomial("-2x+3", 1, "3 -2 0 0 0 0 0");
        Texts.isPolynomial("-2x-3", 1, "-3 -2 0 0 0 0 0");
        String[] leftOut = {"2x3", "x3", "xx", "x2x", "x^2x", "x^23", "2x+3x4", "10x^299"};
        for (String text : leftOut) {
            Texts.isNoPolynomial(text);
        }
        String[] twice = {"++x", "--x", "+-x", "-+x", "x++1", "x--1", "x+-1", "x-+1"};
        for (String text : twice) {
            Texts.isNoPolynomial(text);
        }
        // The characters next to + and -, and what else may look like a sign.
        for (String text : new String[] {"*x", ",x", ".x", "1*x", "1,x", "1.5", "x*2", "x/2", "~x"}) {
            Texts.isNoPolynomial(text);
        }
    }

    /** "then digits (one or two), or x, or digits and x; x may have ^ and a digit" */
    private static void digitsOrXOrBoth() {
        Texts.isPolynomial("7", 0, "7 0 0 0 0 0 0");
        Texts.isPolynomial("x", 1, "0 1 0 0 0 0 0");
        Texts.isPolynomial("7x", 1, "0 7 0 0 0 0 0");
        Texts.isPolynomial("x^5", 5, "0 0 0 0 0 1 0");
        Texts.isPolynomial("77x^5", 5, "0 0 0 0 0 77 0");
        // Only x may have ^ behind, and only x is x.
        for (String text : new String[] {"7^2", "77^2x", "^2", "+^2", "7^x", "X", "y", "w", "7X", "(x)", "7(x)", "a", "x^x"}) {
            Texts.isNoPolynomial(text);
        }
    }

    /** "x may have ^ and a digit 0 .. 6 behind" */
    private static void powerIsADigit0To6() {
        String[] due = {"1 0 0 0 0 0 0", "0 1 0 0 0 0 0", "0 0 1 0 0 0 0", "0 0 0 1 0 0 0", "0 0 0 0 1 0 0", "0 0 0 0 0 1 0",
            "0 0 0 0 0 0 1"};
        for (int power = 0; power <= 6; power++) {
            Texts.isPolynomial("x^" + power, power, due[power]);
        }
        for (String text : new String[] {"x^7", "x^8", "x^9", "x^/", "x^:", "x^", "x^+1", "x^-1", "x^06", "x^10", "x^66", "x^^2",
            "x^7-x^7", "0x^7", "1+x^7", "x^6^1", "x^+", "x^ "}) {
            Texts.isNoPolynomial(text);
        }
    }

    /** "A term is its digits (1 without any) times x to the digit (1 for x alone, 0 without x)." */
    private static void oneWithoutDigits() {
        Texts.isPolynomial("+x", 1, "0 1 0 0 0 0 0");
        Texts.isPolynomial("-x", 1, "0 -1 0 0 0 0 0");
        Texts.isPolynomial("-x^6", 6, "0 0 0 0 0 0 -1");
        Texts.isPolynomial("1x^1", 1, "0 1 0 0 0 0 0");
        Texts.isPolynomial("0x", 0, ZERO);
        Texts.isPolynomial("00x^6", 0, ZERO);
        Texts.isPolynomial("01x", 1, "0 1 0 0 0 0 0");
        Texts.isPolynomial("8x^0", 0, "8 0 0 0 0 0 0");
    }

    /** "Terms with the same power are added." */
    private static void samePowersAreAdded() {
        Texts.isPolynomial("x+x", 1, "0 2 0 0 0 0 0");
        Texts.isPolynomial("x-x", 0, ZERO);
        Texts.isPolynomial("x^1+x", 1, "0 2 0 0 0 0 0");
        Texts.isPolynomial("x^0+1", 0, "2 0 0 0 0 0 0");
        Texts.isPolynomial("x^2+5x^6-5x^6", 2, "0 0 1 0 0 0 0");
        // As much as 30 characters can say, both ways, beyond what two digits or a byte hold.
        Texts.isPolynomial("99x^6+99x^6+99x^6+99x^6+99x^6", 6, "0 0 0 0 0 0 495");
        Texts.isPolynomial("-99x^6-99x^6-99x^6-99x^6-99x^6", 6, "0 0 0 0 0 0 -495");
        Texts.isPolynomial("-99-99-99-99-99-99-99-99-99-99", 0, "-990 0 0 0 0 0 0");
    }

    /** "There are no blanks": not one, at no place of a text that is right without it. */
    private static void noBlanks() {
        everyPlace("-12x^6+x-7", true);
        everyPlace("(x+3)^2(x)(x-1)", false);
        Texts.isNoPolynomial(" ");
        Texts.isNoProduct(" ");
        Texts.isNoPolynomial("                              ");
        Texts.isNoProduct("                              ");
    }

    private static void everyPlace(String text, boolean isPolynomial) {
        for (int i = 0; i <= text.length(); i++) {
            String blank = text.substring(0, i) + " " + text.substring(i);
            if (isPolynomial) {
                Texts.isNoPolynomial(blank);
            } else {
                Texts.isNoProduct(blank);
            }
        }
    }

    /** "and at least one term" */
    private static void atLeastOneTerm() {
        Texts.isNoPolynomial("");
        for (String text : new String[] {"+", "-", "x+", "x-", "7+", "x^2-", "-+", "+x-"}) {
            Texts.isNoPolynomial(text);
        }
        Texts.isPolynomial("x", 1, "0 1 0 0 0 0 0");
        Texts.isPolynomial("0", 0, ZERO);
        // The most terms, and the longest text, that a draft can hold: 15 with 30 characters.
        Texts.isPolynomial("+x+x+x+x+x+x+x+x+x+x+x+x+x+x+x", 1, "0 15 0 0 0 0 0");
        Texts.isPolynomial("1-1+1-1+1-1+1-1+1-1+1-1+1-1+99", 0, "99 0 0 0 0 0 0");
        Texts.isNoPolynomial("x+x+x+x+x+x+x+x+x+x+x+x+x+x+x+");
    }

    /** "a text of one or more FACTORS: (x) or (x+n) or (x-n)" */
    private static void oneOrMoreFactors() {
        Texts.isNoProduct("");
        Texts.isProduct("(x)", 1, "0 1 0 0 0 0 0", "0001000");
        Texts.isProduct("(x)(x+1)", 2, "0 1 1 0 0 0 0", "0011000");
        // The longest product that has no more than 5 roots.
        Texts.isProduct("(x-1)^1(x+2)^1(x-3)(x+3)(x-2)", 5, "-36 36 13 -13 -1 1 0", "1100111");
        String[] none = {"x", "1", "x+1", "()", "(", ")", "(x", "x)", "(x))", "((x)", "((x))", "(x)(", "(x)x", "(x)(x", "[x]", "(X)",
            "(y)", "(1)", "(1+x)", "(3-x)", "(-x)", "(+x)", "(2x)", "(xx)", "(x)*(x)", "(x)+(x)", "(x),(x)", "(x+1-1)", "(x+1", "x+1)",
            "^2", "(x^2)", "(x)2", "2(x)", "-(x)", "+(x)", "(x1)", "(x*1)", "(x,1)", "(x.1)"};
        for (String text : none) {
            Texts.isNoProduct(text);
        }
    }

    /** "n a digit 1 .. 3" */
    private static void numberIsADigit1To3() {
        Texts.isProduct("(x+1)", 1, "1 1 0 0 0 0 0", "0010000");
        Texts.isProduct("(x+2)", 1, "2 1 0 0 0 0 0", "0100000");
        Texts.isProduct("(x+3)", 1, "3 1 0 0 0 0 0", "1000000");
        Texts.isProduct("(x-1)", 1, "-1 1 0 0 0 0 0", "0000100");
        Texts.isProduct("(x-2)", 1, "-2 1 0 0 0 0 0", "0000010");
        Texts.isProduct("(x-3)", 1, "-3 1 0 0 0 0 0", "0000001");
        for (String n : new String[] {"", "0", "4", "9", "/", ":", "01", "10", "11", "30", "-1", "+1", "x", " 1", "1 "}) {
            Texts.isNoProduct("(x+" + n + ")");
            Texts.isNoProduct("(x-" + n + ")");
            Texts.isNoProduct("(x)(x-" + n + ")^2");
        }
    }

    /** "perhaps with ^ and a digit 1 .. 3 behind" */
    private static void powerOfAFactorIsADigit1To3() {
        Texts.isProduct("(x)^1", 1, "0 1 0 0 0 0 0", "0001000");
        Texts.isProduct("(x)^2", 2, "0 0 1 0 0 0 0", "0002000");
        Texts.isProduct("(x)^3", 3, "0 0 0 1 0 0 0", "0003000");
        Texts.isProduct("(x-1)^1", 1, "-1 1 0 0 0 0 0", "0000100");
        Texts.isProduct("(x+2)^3", 3, "8 12 6 1 0 0 0", "0300000");
        for (String power : new String[] {"", "0", "4", "5", "9", "/", ":", "01", "11", "12", "33", "-1", "+1", "^1", "x", " 1", "1 ", "1^1"}) {
            Texts.isNoProduct("(x)^" + power);
            Texts.isNoProduct("(x-3)^" + power);
            Texts.isNoProduct("(x)^1(x+1)^" + power);
        }
        Texts.isNoProduct("^1(x)");
        Texts.isNoProduct("(x^1)");
    }

    /** "its ROOTS are -3 .. 3, each with how often it comes": once to five times, written in several ways. */
    private static void rootsAreMinus3To3() {
        String[] factors = {"(x+3)", "(x+2)", "(x+1)", "(x)", "(x-1)", "(x-2)", "(x-3)"};
        for (int i = 0; i < 7; i++) {
            for (int times = 1; times <= 5; times++) {
                int[] often = new int[7];
                often[i] = times;
                comes(Texts.product(often), i - 3, times);
                comes(factors[i].repeat(times), i - 3, times);
            }
            comes(factors[i] + "^1" + factors[i] + "^3", i - 3, 4);
            comes(factors[i] + "^2" + factors[i] + "^3", i - 3, 5);
        }
    }

    private static void comes(String text, int root, int times) {
        PartsDesk desk = Check.desk("1", text);
        for (int other = -3; other <= 3; other++) {
            int which = other;
            Check.due("many(" + other + ") in " + text, other == root ? times : 0, () -> desk.many(which));
        }
        Check.due("the last part in " + text, "1/1", () -> Check.part(desk, root, times));
        Check.refusedArgument("one part more in " + text, () -> desk.part(root, times + 1, 0));
    }

    /** "all together at most 5": with 5 each of them is right, with 6 none is. */
    private static void atMostFiveRoots() {
        int[] often = new int[7];
        int five = 0;
        int six = 0;
        for (int code = 0; code < 823543; code++) {
            int sum = Texts.spread(code, often);
            if (sum == 5) {
                five++;
                String text = Texts.product(often);
                PartsDesk desk = new PartsDesk();
                Check.write(desk, text);
                Check.due("denominator " + text, 5, desk::denominator);
            } else if (sum == 6) {
                six++;
                Texts.hasTooManyRoots(Texts.product(often));
            }
        }
        int counted = 1000 * five + six;
        // 5 of 7 roots in 462 ways, 6 in 924.
        Check.due("products tried", 462924, () -> counted);
        for (String text : new String[] {"(x)(x)(x)(x)(x)(x)", "(x)^3(x)^2(x)^1", "(x)^1(x)^1(x+1)(x+1)(x-1)(x-1)",
            "(x)(x)(x)(x)(x)(x)(x)(x)(x)(x)", "(x)^3(x)^3(x)^3(x)^3(x)^3(x)^3"}) {
            Texts.hasTooManyRoots(text);
        }
    }

    /** "At first the numerator is 0, the denominator x." */
    private static void atFirstZeroByX() {
        Check.due("the first function", Check.told(Check.desk("0", "(x)")), () -> Check.told(new PartsDesk()));
    }

    /** "It is the QUOTIENT, a polynomial, and the sum of PARTS": by the degrees of numerator and denominator. */
    private static void quotientByDegrees() {
        Check.due("0 / x", ZERO, () -> Check.coefficients(new PartsDesk(), 2));
        Check.due("a lower numerator", ZERO, () -> Check.coefficients(Check.desk("x^4", "(x)^3(x)^2"), 2));
        Check.due("the same degree", "7 0 0 0 0 0 0", () -> Check.coefficients(Check.desk("7x^5", "(x+1)^3(x)^2"), 2));
        Check.due("one more", "0 1 0 0 0 0 0", () -> Check.coefficients(Check.desk("x^6", "(x)^3(x)^2"), 2));
        Check.due("the greatest", "243 -81 27 -9 3 -1 0", () -> Check.coefficients(Check.desk("-x^6", "(x+3)"), 2));
    }

    /** "for each root r and k from 1 to how often it comes": the numerator may cancel a root, the part stays. */
    private static void partsForEachTimeARootComes() {
        PartsDesk desk = Check.desk("x^3", "(x)^3(x-1)");
        Check.due("many(0)", 3, () -> desk.many(0));
        for (int k = 1; k <= 3; k++) {
            int which = k;
            Check.due("a(0, " + k + ")", "0/1", () -> Check.part(desk, 0, which));
        }
        Check.due("a(1, 1)", "1/1", () -> Check.part(desk, 1, 1));
        Check.refusedArgument("a(0, 0)", () -> desk.part(0, 0, 0));
        Check.refusedArgument("a(0, 4)", () -> desk.part(0, 4, 0));
    }

    /** "Its INTEGRAL is": each of the three sentences, at its first and its last power. */
    private static void integralOfEachKind() {
        PartsDesk powers = Check.desk("60x^6-60x", "(x)");
        Check.due("60 x^5 gives", "10/1", () -> Check.integral(powers, 9, 6));
        Check.due("-60 gives", "-60/1", () -> Check.integral(powers, 9, 1));
        PartsDesk parts = Check.desk("2x^4+3x^3+4x^2+5x+6", "(x)^3(x)^2");
        String[] due = {"2/1", "-3/1", "-2/1", "-5/3", "-3/2"};
        for (int k = 0; k <= 4; k++) {
            int which = k;
            Check.due("of 1 / x^" + k, due[k], () -> Check.integral(parts, 0, which));
        }
    }

    /** "without a common divisor" */
    private static void withoutACommonDivisor() {
        PartsDesk desk = Check.desk("6x", "(x-1)^2(x+3)");
        Check.due("6 / 4", "3/2", () -> Check.part(desk, 1, 2));
        Check.due("18 / 16", "9/8", () -> Check.part(desk, 1, 1));
        Check.due("-18 / 16", "-9/8", () -> Check.part(desk, -3, 1));
        Check.due("minus 3 / 2", "-3/2", () -> Check.integral(desk, 1, 1));
        Check.due("-120 / (441 * -17)", "40/2499", () -> Check.value(desk, -20));
        PartsDesk four = Check.desk("4x^3", "(x)(x)(x)(x-1)^2");
        Check.due("4 / 1", "4/1", () -> Check.part(four, 1, 2));
        Check.due("4 / 361", "4/361", () -> Check.value(four, 20));
        Check.due("4 x^4 / 2", "2/1", () -> Check.integral(Check.desk("4x^2", "(x)"), 9, 2));
        Check.due("3 x^2 / 2", "3/2", () -> Check.integral(Check.desk("3x^2", "(x)"), 9, 2));
    }

    /** "the denominator above 0" */
    private static void denominatorAboveZero() {
        PartsDesk desk = Check.desk("1", "(x)^2(x-3)");
        Check.due("1 / -3", "-1/3", () -> Check.part(desk, 0, 2));
        Check.due("1 / -9", "-1/9", () -> Check.part(desk, 0, 1));
        Check.due("minus 1 / -3", "1/3", () -> Check.integral(desk, 0, 1));
        Check.due("1 / -9 of the logarithm", "-1/9", () -> Check.integral(desk, 0, 0));
        Check.due("1 / -2", "-1/2", () -> Check.value(desk, 1));
        PartsDesk minus = Check.desk("-1", "(x)^2(x-3)");
        Check.due("-1 / -3", "1/3", () -> Check.part(minus, 0, 2));
        Check.due("-1 / -2", "1/2", () -> Check.value(minus, 1));
    }

    /** "(0 is 0 / 1)" */
    private static void zeroIsZeroByOne() {
        PartsDesk desk = Check.desk("0", "(x-3)^3(x+2)^2");
        for (int k = 1; k <= 3; k++) {
            int which = k;
            Check.due("part", "0/1", () -> Check.part(desk, 3, which));
            Check.due("integral", "0/1", () -> Check.integral(desk, 3, which - 1));
            Check.due("integral's polynomial", "0/1", () -> Check.integral(desk, 9, which));
        }
        Check.due("value by a denominator below 0", "0/1", () -> Check.value(desk, 0));
        Check.due("value by a denominator above 0", "0/1", () -> Check.value(desk, 20));
    }
}
