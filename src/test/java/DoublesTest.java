import java.util.Random;

/** Promises 10 and 11: the values in doubles, to the last bit. */
public final class DoublesTest {
    private static final double[] NOT_NEAR = {100.00000000000001, -100.00000000000001, 101.0, -1.0e300, Double.NaN,
        Double.POSITIVE_INFINITY, Double.NEGATIVE_INFINITY, Double.MAX_VALUE};
    private static final String[] ABOVE = {"0", "1", "-7", "x^6-3x^2+12", "99x^6-98x^5+97x^4-96x^3+95x", "x^2-x", "7x^3-11"};
    private static final String[] BELOW = {"(x)", "(x)^3(x)^2", "(x)^2(x-2)^3", "(x+3)(x+2)(x+1)(x-1)(x-3)", "(x+1)^2(x-3)^3",
        "(x-1)(x)(x+1)", "(x+3)^3(x+3)"};

    public static void main(String[] args) {
        byHand();
        atZeroDenominators();
        notNear();
        manyPlaces();
        Check.end();
    }

    private static void byHand() {
        PartsDesk two = Check.desk("1", "(x-1)(x+1)");
        Check.due("at(0.5)", -1.3333333333333333, () -> two.at(0.5));
        Check.due("byParts(0.5)", -1.3333333333333333, () -> two.byParts(0.5));
        Check.due("at(100.0)", 1.0 / 9999.0, () -> two.at(100.0));
        Check.due("at(-100.0)", 1.0 / 9999.0, () -> two.at(-100.0));
        Check.due("byParts(100.0)", 0.0 + -0.5 / 101.0 + 0.5 / 99.0, () -> two.byParts(100.0));
        Check.due("byParts(-100.0)", 0.0 + -0.5 / -99.0 + 0.5 / -101.0, () -> two.byParts(-100.0));

        PartsDesk mixed = Check.desk("x^6-3x^2+12", "(x)^2(x-2)^3");
        Check.due("at(-2.25)", -0.3256571755961131, () -> mixed.at(-2.25));
        Check.due("byParts(-2.25)", -0.32565717559611296, () -> mixed.byParts(-2.25));

        // The part is divided before p divides it, and in doubles: 1 / 1296 is not 0.
        PartsDesk far = Check.desk("1", "(x+3)(x-3)^2(x-3)^2");
        double due = 0.0 + 1.0 / 1296.0 / 3.5 + -1.0 / 1296.0 / -2.5 + 1.0 / 216.0 / 6.25 + -1.0 / 36.0 / -15.625
            + 1.0 / 6.0 / 39.0625;
        Check.due("byParts(0.5)", due, () -> far.byParts(0.5));
    }

    private static void atZeroDenominators() {
        PartsDesk mixed = Check.desk("x^6-3x^2+12", "(x)^2(x-2)^3");
        Check.due("at(2.0)", 0.0, () -> mixed.at(2.0));
        Check.due("at(0.0)", 0.0, () -> mixed.at(0.0));
        Check.due("at(-0.0)", 0.0, () -> mixed.at(-0.0));
        Check.due("byParts(2.0)", 6.5, () -> mixed.byParts(2.0));
        double atZero = 6.0 + 105.0 / 4.0 / -2.0 + 29.0 / 4.0 + 16.0 / -8.0;
        Check.due("byParts(0.0)", atZero, () -> mixed.byParts(0.0));
        Check.due("byParts(-0.0)", atZero, () -> mixed.byParts(-0.0));

        // What cancels is no matter: the denominator is 0.0 all the same.
        PartsDesk cancels = Check.desk("x^2-x", "(x-1)");
        Check.due("at(1.0)", 0.0, () -> cancels.at(1.0));
        Check.due("byParts(1.0)", 1.0, () -> cancels.byParts(1.0));

        // x is not 0.0, but a power of it is, so that part alone counts for nothing.
        PartsDesk five = Check.desk("1+x", "(x)^2");
        Check.due("at(1.0E-200)", 0.0, () -> five.at(1.0E-200));
        Check.due("byParts(1.0E-200)", 1.0 / 1.0E-200, () -> five.byParts(1.0E-200));
        Check.due("at(1.0E-160)", Double.POSITIVE_INFINITY, () -> five.at(1.0E-160));
        Check.due("byParts(1.0E-160)", Double.POSITIVE_INFINITY, () -> five.byParts(1.0E-160));
    }

    private static void notNear() {
        PartsDesk desk = Check.desk("x", "(x-1)");
        for (double x : NOT_NEAR) {
            Check.refusedArgument("at(" + x + ")", () -> desk.at(x));
            Check.refusedArgument("byParts(" + x + ")", () -> desk.byParts(x));
        }
    }

    private static void manyPlaces() {
        Random random = new Random(4);
        for (String above : ABOVE) {
            for (String below : BELOW) {
                // An object answers 512 calls: one tells its numbers, others are asked at 100 places each.
                Numbers numbers = new Numbers(Check.desk(above, below));
                PartsDesk desk = null;
                for (int n = 0; n < 400; n++) {
                    desk = n % 100 == 0 ? Check.desk(above, below) : desk;
                    onePlace(above + " / " + below, desk, numbers, place(random, n));
                }
            }
        }
    }

    private static void onePlace(String function, PartsDesk desk, Numbers numbers, double x) {
        String what = function + " at " + x;
        Check.due(what, numbers.divided(x), () -> desk.at(x));
        Check.due(what + " by parts", numbers.added(x), () -> desk.byParts(x));
        Check.due(what + " is a number", false, () -> Double.isNaN(desk.byParts(x)));
    }

    private static double place(Random random, int n) {
        switch (n % 4) {
            case 0:
                return n / 4 - 50;
            case 1:
                return random.nextDouble() * 200.0 - 100.0;
            case 2:
                return random.nextDouble() * 8.0 - 4.0;
            default:
                return (random.nextBoolean() ? 1.0 : -1.0) * Math.pow(10.0, -random.nextInt(330));
        }
    }

    /** What an object tells of its function, and the doubles that the document makes of it. */
    private static final class Numbers {
        private final long[][] coefficients = new long[3][7];
        private final int[] often = new int[7];
        private final double[][] parts = new double[7][6];

        Numbers(PartsDesk desk) {
            for (int i = 0; i < 7; i++) {
                for (int of = 0; of <= 2; of++) {
                    coefficients[of][i] = desk.coefficient(of, i);
                }
                often[i] = desk.many(i - 3);
                for (int k = 1; k <= often[i]; k++) {
                    parts[i][k] = (double) desk.part(i - 3, k, 0) / desk.part(i - 3, k, 1);
                }
            }
        }

        double divided(double x) {
            double below = horner(1, x);
            return below == 0.0 ? 0.0 : horner(0, x) / below;
        }

        double added(double x) {
            double sum = horner(2, x);
            for (int i = 0; i < 7; i++) {
                double p = 1.0;
                for (int k = 1; k <= often[i]; k++) {
                    p *= x - (i - 3);
                    sum = p == 0.0 ? sum : sum + parts[i][k] / p;
                }
            }
            return sum;
        }

        private double horner(int of, double x) {
            int degree = 6;
            while (degree > 0 && coefficients[of][degree] == 0) {
                degree--;
            }
            double value = coefficients[of][degree];
            for (int i = degree - 1; i >= 0; i--) {
                value = value * x + coefficients[of][i];
            }
            return value;
        }
    }
}
