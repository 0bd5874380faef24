import java.util.function.Supplier;

/** Promises 1 to 4, sentence by sentence: the empty and the full draft, and what a refused call leaves. */
public final class DraftEdgesTest {
    /** The most that a draft holds: 30 characters, which say -15 x. */
    private static final String FULL = "-x-x-x-x-x-x-x-x-x-x-x-x-x-x-x";

    public static void main(String[] args) {
        newObject();
        newDraftIsEmpty();
        objectsAreApart();
        firstAndLastCharacter();
        thirtiethAndThirtyFirst();
        refusedCharacterTakesNoRoom();
        refusedCharacterChangesNothing();
        writingLeavesTheFunction();
        draftIsEmptyInAnyCase();
        draftIsReadOnce();
        degreeOfZero();
        degreeOfNumerators();
        refusedNumerator();
        numeratorAfterARefusedOne();
        degreeOfDenominators();
        refusedDenominator();
        moreThanFiveRoots();
        noProductWithMoreThanFiveRoots();
        denominatorAfterARefusedOne();
        Check.end();
    }

    /** Promise 1, "0 / x". */
    private static void newObject() {
        PartsDesk desk = new PartsDesk();
        Check.due("numerator", "0 0 0 0 0 0 0", () -> Check.coefficients(desk, 0));
        Check.due("denominator", "0 1 0 0 0 0 0", () -> Check.coefficients(desk, 1));
        Check.due("quotient", "0 0 0 0 0 0 0", () -> Check.coefficients(desk, 2));
        Check.due("roots", "0001000", () -> Check.roots(desk));
        Check.due("a(0, 1)", "0/1", () -> Check.part(desk, 0, 1));
        Check.refusedArgument("a(0, 2)", () -> desk.part(0, 2, 0));
        Check.refusedArgument("a(1, 1)", () -> desk.part(1, 1, 0));
        Check.due("logarithm of x", "0/1", () -> Check.integral(desk, 0, 0));
        Check.refusedArgument("1 / x in the integral", () -> desk.integral(0, 1, 0));
        Check.due("x in the integral", "0/1", () -> Check.integral(desk, 9, 1));
        Check.refusedArgument("value at the root", () -> desk.value(0, 0));
        Check.due("value at -1", "0/1", () -> Check.value(desk, -1));
        Check.due("value at 1", "0/1", () -> Check.value(desk, 1));
        Check.due("at the root", 0.0, () -> desk.at(0.0));
        Check.due("by parts at the root", 0.0, () -> desk.byParts(0.0));
        Check.due("at 100.0", 0.0, () -> desk.at(100.0));
        Check.due("by parts at -100.0", 0.0, () -> desk.byParts(-100.0));
    }

    private static void newDraftIsEmpty() {
        PartsDesk first = new PartsDesk();
        Check.refusedAndKept("numerator of a new object's draft", first, first::numerator);
        PartsDesk second = new PartsDesk();
        Check.refusedAndKept("denominator of a new object's draft", second, second::denominator);
        Texts.draftIsEmpty("making", new PartsDesk());
    }

    private static void objectsAreApart() {
        PartsDesk one = Check.desk("x^2", "(x-1)");
        Check.write(one, "5");
        PartsDesk other = new PartsDesk();
        Check.refusedArgument("a draft of another object", other::numerator);
        Check.due("a function of another object", Check.told(new PartsDesk()), () -> Check.told(other));
        Check.write(other, "7x^6");
        Check.due("the other numerator", 6, other::numerator);
        Check.due("the one numerator", "0 0 1 0 0 0 0", () -> Check.coefficients(one, 0));
        Check.due("the one draft", 0, one::numerator);
        Check.due("what it says", "5 0 0 0 0 0 0", () -> Check.coefficients(one, 0));
    }

    /** Promise 2, "32 .. 126". */
    private static void firstAndLastCharacter() {
        // 288 and 376 are a blank and an x with 256 more, and 65336 is -200 as a short.
        int[] wrong = {0, 1, 9, 10, 13, 30, 31, 127, 128, 160, 255, 256, 288, 376, 32767, 32768, 65336, 65535};
        for (int c : wrong) {
            PartsDesk desk = new PartsDesk();
            Check.due("write of " + c, false, () -> desk.write((char) c));
            Texts.draftIsEmpty("write of " + c, desk);
        }
        for (int c = 32; c <= 126; c++) {
            PartsDesk desk = new PartsDesk();
            char right = (char) c;
            Check.due("write of " + c, true, () -> desk.write(right));
            boolean isPolynomial = right == 'x' || right >= '0' && right <= '9';
            Check.due("draft of " + c, isPolynomial ? right == 'x' ? 1 : 0 : "throws.IllegalArgumentException", desk::numerator);
        }
    }

    /** Promise 2, "false when there are 30". */
    private static void thirtiethAndThirtyFirst() {
        for (char c : new char[] {' ', 'x', '~', '('}) {
            PartsDesk desk = new PartsDesk();
            for (int n = 1; n <= 30; n++) {
                Check.due("character " + n, true, () -> desk.write(c));
            }
            for (int n = 31; n <= 33; n++) {
                Check.due("character " + n, false, () -> desk.write(c));
            }
            Check.due("a wrong one when there are 30", false, () -> desk.write((char) 31));
            Check.refusedArgument("30 times " + c, desk::numerator);
            Texts.draftIsEmpty("30 times " + c, desk);
        }
    }

    /** Promise 2, "false when ... it is none such": it does not count among the 30. */
    private static void refusedCharacterTakesNoRoom() {
        PartsDesk desk = new PartsDesk();
        for (int i = 0; i < 30; i++) {
            char right = FULL.charAt(i);
            Check.due("wrong", false, () -> desk.write((char) 127));
            Check.due("right", true, () -> desk.write(right));
            Check.due("wrong", false, () -> desk.write((char) 31));
        }
        Check.due("the 31st", false, () -> desk.write('x'));
        Check.due("numerator", 1, desk::numerator);
        Check.due("what it says", "0 -15 0 0 0 0 0", () -> Check.coefficients(desk, 0));
    }

    private static void refusedCharacterChangesNothing() {
        PartsDesk between = new PartsDesk();
        Check.write(between, "1");
        Check.due("wrong", false, () -> between.write((char) 31));
        Check.write(between, "2");
        Check.due("numerator", 0, between::numerator);
        Check.due("what it says", 12L, () -> between.coefficient(0, 0));

        PartsDesk full = new PartsDesk();
        Check.write(full, "x+x+x+x+x+x+x+x+x+x+x+x+x+x+x^");
        Check.due("the 31st would make it right", false, () -> full.write('2'));
        Check.refusedArgument("numerator", full::numerator);

        PartsDesk last = new PartsDesk();
        Check.write(last, "1+x+x+x+x+x+x+x+x+x+x+x+x+x+11");
        Check.due("the 31st would make it wrong", false, () -> last.write('+'));
        Check.due("numerator", 1, last::numerator);
        Check.due("what it says", "12 13 0 0 0 0 0", () -> Check.coefficients(last, 0));
    }

    private static void writingLeavesTheFunction() {
        PartsDesk desk = Check.desk("5x^2+3", "(x-1)");
        String before = Check.told(desk);
        Check.write(desk, FULL);
        Check.due("the 31st", false, () -> desk.write('x'));
        Check.due("the function while a draft is written", before, () -> Check.told(desk));
        Check.due("numerator", 1, desk::numerator);
    }

    /** Promises 3 and 4, "the draft is empty then in any case": read, no such text, too many roots. */
    private static void draftIsEmptyInAnyCase() {
        String[] numerators = {"7", FULL, "", "x+", "(x)", "~"};
        for (String text : numerators) {
            PartsDesk desk = written(text);
            boolean isRight = text.equals("7") || text.equals(FULL);
            Object due = isRight ? (Object) (text.equals("7") ? 0 : 1) : "throws.IllegalArgumentException";
            Check.due("numerator " + text, due, desk::numerator);
            Texts.draftIsEmpty("numerator " + text, desk);
        }
        String[] denominators = {"", "x", "(x", "(x+4)", "(x)^3(x)^3(x)^3(x)^3(x)^3(x)^4"};
        for (String text : denominators) {
            PartsDesk desk = written(text);
            Check.refusedArgument("denominator " + text, desk::denominator);
            Texts.draftIsEmpty("denominator " + text, desk);
        }
        PartsDesk right = written("(x)^3(x)^2");
        Check.due("denominator", 5, right::denominator);
        Texts.draftIsEmpty("a right denominator", right);
        PartsDesk tooMany = written("(x)^3(x)^3(x)^3(x)^3(x)^3(x)^3");
        Check.refusedState("denominator", tooMany::denominator);
        Texts.draftIsEmpty("too many roots", tooMany);
    }

    /** What a call has read, or refused, no later call reads again: not the other kind either. */
    private static void draftIsReadOnce() {
        PartsDesk polynomial = written("7x");
        Check.refusedArgument("a polynomial as denominator", polynomial::denominator);
        Check.refusedArgument("and then as numerator", polynomial::numerator);
        PartsDesk product = written("(x-1)");
        Check.refusedArgument("a product as numerator", product::numerator);
        Check.refusedArgument("and then as denominator", product::denominator);
        Check.due("all as it was", Check.told(new PartsDesk()), () -> Check.told(product));
        PartsDesk tooMany = written("(x)^3(x)^3");
        Check.refusedState("too many roots", tooMany::denominator);
        Check.refusedArgument("and then an empty draft", tooMany::denominator);
        PartsDesk shorter = written("x^6+99");
        Check.due("a long draft", 6, shorter::numerator);
        Check.write(shorter, "x");
        Check.due("a short one behind it", 1, shorter::numerator);
        Check.due("what it says", "0 1 0 0 0 0 0", () -> Check.coefficients(shorter, 0));
    }

    /** Promise 3, "its degree (0 for 0 itself)". */
    private static void degreeOfZero() {
        for (String text : new String[] {"0", "+0", "-0", "00", "0x", "0x^6", "-00x^6", "x-x", "x^6-x^6", "9x^6+x-9x^6-x", "1-1", "x^0-1"}) {
            Texts.isPolynomial(text, 0, "0 0 0 0 0 0 0");
        }
        PartsDesk desk = Check.desk("x^6", "(x-1)");
        Check.write(desk, "0");
        Check.due("0 behind another numerator", 0, desk::numerator);
        Check.due("and all of it", Check.told(Check.desk("0", "(x-1)")), () -> Check.told(desk));
    }

    /** Promise 3, "its degree": of what is left, not of what is written. */
    private static void degreeOfNumerators() {
        for (int degree = 0; degree <= 6; degree++) {
            int due = degree;
            Check.due("degree of 5x^" + degree, due, written("5x^" + degree)::numerator);
            Check.due("degree of -x^" + degree + "+2", degree, written("-x^" + due + "+2")::numerator);
        }
        Check.due("degree of 0x^6+x^2", 2, written("0x^6+x^2")::numerator);
        Check.due("degree of x^6+x^5-x^6", 5, written("x^6+x^5-x^6")::numerator);
        Check.due("degree of x^6-x^6+4", 0, written("x^6-x^6+4")::numerator);
    }

    /** Promise 3, "IllegalArgumentException when it is none"; the numerator is as it was. */
    private static void refusedNumerator() {
        for (String text : new String[] {"", "+", "100", "x^7", "x ", "(x)", "x+x+x+x+x+x+x+x+x+x+x+x+x+x+x+"}) {
            Texts.isNoPolynomial(text);
        }
    }

    private static void numeratorAfterARefusedOne() {
        // What the refused text said before its fault must not be added to the next.
        PartsDesk desk = written("5x^6+4x+3+");
        Check.refusedArgument("numerator", desk::numerator);
        Check.write(desk, "2x");
        Check.due("the next numerator", 1, desk::numerator);
        Check.due("what it says", "0 2 0 0 0 0 0", () -> Check.coefficients(desk, 0));
    }

    /** Promise 4, "its degree". */
    private static void degreeOfDenominators() {
        String[] texts = {"(x-3)", "(x)(x)", "(x+1)^3", "(x-2)^3(x)", "(x+3)^3(x-3)^2"};
        for (int degree = 1; degree <= 5; degree++) {
            Check.due("degree of " + texts[degree - 1], degree, written(texts[degree - 1])::denominator);
        }
        PartsDesk desk = Check.desk("x^6", "(x+3)^3(x-3)^2");
        Check.write(desk, "(x)");
        Check.due("a shorter one behind it", 1, desk::denominator);
        Check.due("and all of it", Check.told(Check.desk("x^6", "(x)")), () -> Check.told(desk));
    }

    /** Promise 4, "IllegalArgumentException when it is none"; the denominator is as it was. */
    private static void refusedDenominator() {
        for (String text : new String[] {"", "x", "7", "(x", "(x+0)", "(x-4)", "(x)^0", "(x)^4", "(x) ", "(x)(x+1)("}) {
            Texts.isNoProduct(text);
        }
    }

    /** Promise 4, "IllegalStateException when its roots would be more than 5". */
    private static void moreThanFiveRoots() {
        Check.due("5 roots", 5, written("(x)^3(x)^2")::denominator);
        Texts.hasTooManyRoots("(x)^3(x)^3");
        Check.due("5 roots", 5, written("(x+1)(x+2)(x+3)(x)(x-1)")::denominator);
        Texts.hasTooManyRoots("(x+1)(x+2)(x+3)(x)(x-1)(x-2)");
        Texts.hasTooManyRoots("(x+1)^3(x+2)^3(x+3)^3(x)^3");
        // The roots are counted anew in each product: 5 behind 5 are 5.
        PartsDesk desk = Check.desk("1", "(x)^3(x)^2");
        Check.write(desk, "(x-1)^3(x-1)^2");
        Check.due("5 roots behind 5", 5, desk::denominator);
        Check.due("many", "0000500", () -> Check.roots(desk));
    }

    /** Promise 4: what is no product at all has no roots, so it is "none" first. */
    private static void noProductWithMoreThanFiveRoots() {
        for (String text : new String[] {"(x)^3(x)^3(", "(x)^3(x)^3(x)^4", "(x)^3(x)^3(x", "(x)^3(x)^3 ", "(x)^3(x)^3(x+4)", "(x)^3(x)^3^1"}) {
            Texts.isNoProduct(text);
        }
    }

    private static void denominatorAfterARefusedOne() {
        String[] texts = {"(x)^3(x+1)^2(", "(x)^3(x+1)^3"};
        for (String text : texts) {
            PartsDesk desk = written(text);
            Supplier<Object> read = desk::denominator;
            Check.due("refused " + text, true, () -> Check.answer(read).startsWith("throws."));
            Check.write(desk, "(x-2)^3(x+1)^2");
            Check.due("the next denominator", 5, read);
            Check.due("its roots", "0020030", () -> Check.roots(desk));
        }
    }

    private static PartsDesk written(String text) {
        PartsDesk desk = new PartsDesk();
        Check.write(desk, text);
        return desk;
    }
}
