/** Promises 10 and 11, sentence by sentence: the ends of what is allowed, and denominators that are 0.0. */
public final class DoublesEdgesTest {
    private static final double[] NOT_SO = {Math.nextUp(100.0), Math.nextDown(-100.0), 100.5, -100.5, 101.0, -101.0, 1.0e10, -1.0e10,
        Double.MAX_VALUE, -Double.MAX_VALUE, Double.POSITIVE_INFINITY, Double.NEGATIVE_INFINITY, Double.NaN};

    public static void main(String[] args) {
        firstAndLastNumber();
        noSuchNumber();
        highestFirst();
        zeroWhenTheDenominatorIsZero();
        zeroWhenTheDenominatorIsTooSmall();
        leastRootFirstAndLeastPowerFirst();
        quotientAlone();
        partWhosePIsZero();
        onlyThePowersThatAreZero();
        neverNaN();
        Check.end();
    }

    /** Promises 10 and 11, "-100.0 .. 100.0". */
    private static void firstAndLastNumber() {
        PartsDesk desk = Check.desk("x^2", "(x)");
        for (double x : new double[] {100.0, -100.0, Math.nextDown(100.0), Math.nextUp(-100.0)}) {
            Check.due("at(" + x + ")", (x * x + 0.0) / x, () -> desk.at(x));
            Check.due("byParts(" + x + ")", x, () -> desk.byParts(x));
        }
        PartsDesk great = Check.desk("99x^6", "(x-3)");
        Check.due("at(100.0)", 9.9e13 / 97.0, () -> great.at(100.0));
        Check.due("at(-100.0)", 9.9e13 / -103.0, () -> great.at(-100.0));
    }

    /** Promises 10 and 11, "IllegalArgumentException when x is not -100.0 .. 100.0", "when x is not so". */
    private static void noSuchNumber() {
        for (double x : NOT_SO) {
            PartsDesk one = Check.desk("5x^6-x^3+7", "(x-2)^3(x+1)^2");
            Check.refusedAndKept("at(" + x + ")", one, () -> one.at(x));
            PartsDesk other = Check.desk("5x^6-x^3+7", "(x-2)^3(x+1)^2");
            Check.refusedAndKept("byParts(" + x + ")", other, () -> other.byParts(x));
            PartsDesk fresh = new PartsDesk();
            Check.refusedAndKept("0 / x at(" + x + ")", fresh, () -> fresh.at(x));
            Check.refusedAndKept("0 / x byParts(" + x + ")", fresh, () -> fresh.byParts(x));
        }
    }

    /** Promise 10, "the highest first, each time the value so far times x plus the next coefficient, then divided". */
    private static void highestFirst() {
        PartsDesk desk = Check.desk("9x^6-8x^5+7x^4-6x^3+5x-4", "(x+2)^2(x-1)^3");
        // At 3.4 every other order of the sums, and the product of the factors, rounds to another double.
        double x = 3.4;
        double above = (((((9.0 * x - 8.0) * x + 7.0) * x - 6.0) * x + 0.0) * x + 5.0) * x - 4.0;
        double below = ((((1.0 * x + 1.0) * x - 5.0) * x - 1.0) * x + 8.0) * x - 4.0;
        Check.due("at(3.4)", above / below, () -> desk.at(x));
        Check.due("at(3.4)", 27.24089172763297, () -> desk.at(x));
    }

    /** Promise 10, "0.0 when the denominator is 0.0": at each root, whatever the numerator is there. */
    private static void zeroWhenTheDenominatorIsZero() {
        PartsDesk desk = Check.desk("x^2-1", "(x+3)(x+1)(x)(x-1)(x-3)");
        for (double x : new double[] {-3.0, -1.0, 0.0, -0.0, 1.0, 3.0}) {
            Check.due("at(" + x + ")", 0.0, () -> desk.at(x));
        }
        Check.due("at(2.0), which is no root", 3.0 / -30.0, () -> desk.at(2.0));
        Check.due("at(-2.0), which is no root", 3.0 / 30.0, () -> desk.at(-2.0));
        PartsDesk minus = Check.desk("-5", "(x)");
        Check.due("-5 / x at(0.0)", 0.0, () -> minus.at(0.0));
        Check.due("-5 / x at(-0.0)", 0.0, () -> minus.at(-0.0));
        Check.due("0 / x at(-0.0)", 0.0, () -> new PartsDesk().at(-0.0));
    }

    /** Promise 10: a denominator of doubles is 0.0 where a power is too small, or all of it is rounded away. */
    private static void zeroWhenTheDenominatorIsTooSmall() {
        PartsDesk once = Check.desk("3", "(x)");
        Check.due("the least double", Double.POSITIVE_INFINITY, () -> once.at(Double.MIN_VALUE));
        Check.due("the least double below 0", Double.NEGATIVE_INFINITY, () -> once.at(-Double.MIN_VALUE));
        PartsDesk twice = Check.desk("3", "(x)^2");
        Check.due("a square that is 0.0", 0.0, () -> twice.at(Double.MIN_VALUE));
        Check.due("a square that is 0.0", 0.0, () -> twice.at(-1.0e-162));
        Check.due("a square that is not", Double.POSITIVE_INFINITY, () -> twice.at(-2.0e-162));
        PartsDesk far = Check.desk("1", "(x-3)^2");
        double next = Math.nextUp(3.0);
        double below = (1.0 * next - 6.0) * next + 9.0;
        Check.due("what is next to 3.0 makes no other double", 0.0, () -> below);
        Check.due("at what is next to 3.0", 0.0, () -> far.at(next));
    }

    /** Promise 11, "for each root from the least on and each k from 1 on: plus (numerator / denominator) / p". */
    private static void leastRootFirstAndLeastPowerFirst() {
        PartsDesk desk = Check.desk("x^6-3x^2+7", "(x+2)^2(x-1)^3");
        // At 4.4375 every other order, and numerator / (denominator * p), rounds to another double.
        double x = 4.4375;
        double left = x + 2.0;
        double right = x - 1.0;
        double due = 1.0 * x - 1.0;
        due = due + 121.0 / 27.0 / left;
        due = due + -59.0 / 27.0 / (left * left);
        due = due + 41.0 / 27.0 / right;
        due = due + -10.0 / 27.0 / (right * right);
        due = due + 5.0 / 9.0 / (right * right * right);
        double sum = due;
        Check.due("byParts(4.4375)", sum, () -> desk.byParts(x));
        Check.due("byParts(4.4375)", 4.505007319636115, () -> desk.byParts(x));
    }

    /** Promise 11, "the quotient likewise": the parts are all 0 / 1 here. */
    private static void quotientAlone() {
        PartsDesk desk = Check.desk("9x^6-8x^5+7x^4-6x^3+5x^2-4x", "(x)");
        double x = 3.4;
        double due = ((((9.0 * x - 8.0) * x + 7.0) * x - 6.0) * x + 5.0) * x - 4.0;
        Check.due("byParts(3.4)", due, () -> desk.byParts(x));
        Check.due("byParts(0.0)", -4.0, () -> desk.byParts(0.0));
        Check.due("byParts(-100.0)", -9.0e10 - 8.0e8 - 7.0e6 - 6.0e4 - 500.0 - 4.0, () -> desk.byParts(-100.0));
    }

    /** Promise 11, "a part whose p is 0.0 counts for nothing": all parts of that root, and no others. */
    private static void partWhosePIsZero() {
        PartsDesk desk = Check.desk("x^6-3x^2+7", "(x+2)^2(x-1)^3");
        double atLeft = -3.0 + 41.0 / 27.0 / -3.0 + -10.0 / 27.0 / 9.0 + 5.0 / 9.0 / -27.0;
        Check.due("byParts(-2.0)", atLeft, () -> desk.byParts(-2.0));
        double atRight = 0.0 + 121.0 / 27.0 / 3.0 + -59.0 / 27.0 / 9.0;
        Check.due("byParts(1.0)", atRight, () -> desk.byParts(1.0));
        PartsDesk alone = Check.desk("x^3+4x^2-5", "(x)^2");
        Check.due("byParts(0.0)", 4.0, () -> alone.byParts(0.0));
        Check.due("byParts(-0.0)", 4.0, () -> alone.byParts(-0.0));
        PartsDesk nothing = Check.desk("7", "(x-3)");
        Check.due("byParts(3.0)", 0.0, () -> nothing.byParts(3.0));
        Check.due("byParts(nextUp(3.0))", 7.0 / (Math.nextUp(3.0) - 3.0), () -> nothing.byParts(Math.nextUp(3.0)));
    }

    /** Promise 11: p may be 0.0 for the higher k alone; the lower parts of that root count. */
    private static void onlyThePowersThatAreZero() {
        PartsDesk desk = Check.desk("x^4+x^3+x^2+x+1", "(x)^3(x)^2");
        double x = 1.0e-100;
        Check.due("two powers of three", 1.0 / x + 1.0 / (x * x) + 1.0 / (x * x * x), () -> desk.byParts(x));
        double y = 1.0e-110;
        Check.due("p of k = 3 is 0.0", 1.0 / y + 1.0 / (y * y), () -> desk.byParts(y));
        double z = -1.0e-200;
        Check.due("p of k = 2 is 0.0", 1.0 / z, () -> desk.byParts(z));
        Check.due("the least double", Double.POSITIVE_INFINITY, () -> desk.byParts(Double.MIN_VALUE));
        Check.due("the least double below 0", Double.NEGATIVE_INFINITY, () -> desk.byParts(-Double.MIN_VALUE));
    }

    /** No x that is allowed makes infinities of both signs meet, so no answer is NaN. */
    private static void neverNaN() {
        String[] above = {"99x^4-99x^3+99x^2-99x+99", "-x^4+x^3-x^2+x-1", "0"};
        String[] below = {"(x)^3(x)^2", "(x)^3(x-3)^2", "(x)^2(x+1)(x-1)", "(x)"};
        for (String up : above) {
            for (String down : below) {
                for (int first = 0; first < 1100; first += 100) {
                    smallNumbers(Check.desk(up, down), first);
                }
            }
        }
    }

    private static void smallNumbers(PartsDesk desk, int first) {
        for (int power = first; power < first + 100; power++) {
            double x = Math.scalb(1.0, -power);
            Check.due("at(2^-" + power + ") is a number", false, () -> Double.isNaN(desk.at(x)));
            Check.due("at(-2^-" + power + ") is a number", false, () -> Double.isNaN(desk.at(-x)));
            Check.due("byParts(2^-" + power + ") is a number", false, () -> Double.isNaN(desk.byParts(x)));
            Check.due("byParts(-2^-" + power + ") is a number", false, () -> Double.isNaN(desk.byParts(-x)));
        }
    }
}
