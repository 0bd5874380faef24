import java.math.BigInteger;
import java.util.Random;

/**
 * Promises 5 and 7 to 9 on many functions: there is only one way to take a function apart, so what
 * the object tells is right when it adds up to the function again; counted with BigInteger.
 */
public final class IdentityTest {
    public static void main(String[] args) {
        Random random = new Random(3);
        int made = 0;
        int[] often = new int[7];
        for (int code = 0; code < 823543; code++) {
            int sum = Texts.spread(code, often);
            if (sum >= 1 && sum <= 5) {
                made++;
                PartsDesk desk = Check.desk(numerator(random), Texts.product(often));
                addsUp(desk, often, random.nextInt(41) - 20);
            }
        }
        int count = made;
        // 7 roots, 1 to 5 of them: 7 + 28 + 84 + 210 + 462.
        Check.due("products tried", 791, () -> count);
        Check.end();
    }

    private static String numerator(Random random) {
        StringBuilder above = new StringBuilder();
        int terms = 1 + random.nextInt(5);
        for (int i = 0; i < terms; i++) {
            above.append(random.nextBoolean() ? "+" : "-").append(random.nextInt(100)).append("x^").append(random.nextInt(7));
        }
        return above.toString();
    }

    private static void addsUp(PartsDesk desk, int[] often, int t) {
        BigInteger[] above = coefficients(desk, 0);
        BigInteger[] below = {BigInteger.ONE};
        BigInteger common = BigInteger.ONE;
        for (int i = 0; i < 7; i++) {
            below = times(below, i - 3, often[i]);
            for (int k = 1; k <= often[i]; k++) {
                common = common.multiply(inLowestTerms(desk.part(i - 3, k, 0), desk.part(i - 3, k, 1)));
            }
        }
        BigInteger[] sum = new BigInteger[12];
        java.util.Arrays.fill(sum, BigInteger.ZERO);
        BigInteger[] quotient = coefficients(desk, 2);
        for (int i = 0; i < quotient.length; i++) {
            addTo(sum, below, quotient[i].multiply(common), i);
        }
        for (int i = 0; i < 7; i++) {
            for (int k = 1; k <= often[i]; k++) {
                addTo(sum, without(often, i, k), common.multiply(BigInteger.valueOf(desk.part(i - 3, k, 0)))
                    .divide(BigInteger.valueOf(desk.part(i - 3, k, 1))), 0);
            }
        }
        for (int i = 0; i < sum.length; i++) {
            BigInteger got = sum[i];
            BigInteger due = i < above.length ? above[i].multiply(common) : BigInteger.ZERO;
            Check.due("coefficient " + i + " of what the parts add up to", due, () -> got);
        }
        for (int i = 0; i < below.length; i++) {
            int power = i;
            Check.due("denominator", below[i], () -> desk.coefficient(1, power));
        }
        integralFits(desk, often);
        valueFits(desk, often, above, below, t);
    }

    private static void integralFits(PartsDesk desk, int[] often) {
        for (int k = 1; k <= 9; k++) {
            int which = k;
            Check.due("x^" + k, fraction(desk.coefficient(2, k - 1), k), () -> Check.integral(desk, 9, which));
        }
        for (int i = 0; i < 7; i++) {
            int root = i - 3;
            if (often[i] > 0) {
                Check.due("logarithm", Check.part(desk, root, 1), () -> Check.integral(desk, root, 0));
            }
            for (int k = 1; k < often[i]; k++) {
                int which = k;
                String due = fraction(-desk.part(root, k + 1, 0), k * desk.part(root, k + 1, 1));
                Check.due("1 / (x - " + root + ")^" + k, due, () -> Check.integral(desk, root, which));
            }
        }
    }

    private static void valueFits(PartsDesk desk, int[] often, BigInteger[] above, BigInteger[] below, int t) {
        if (t >= -3 && t <= 3 && often[t + 3] > 0) {
            Check.refusedArgument("value at a root", () -> desk.value(t, 0));
            return;
        }
        String due = fraction(at(above, t).longValueExact(), at(below, t).longValueExact());
        Check.due("value at " + t, due, () -> Check.value(desk, t));
    }

    /** The denominator, once it is sure that the fraction has no common divisor and it is above 0. */
    private static BigInteger inLowestTerms(long above, long below) {
        long divisor = BigInteger.valueOf(above).gcd(BigInteger.valueOf(below)).longValueExact();
        Check.due("common divisor of " + above + " / " + below, 1L, () -> divisor);
        Check.due("denominator above 0", true, () -> below > 0);
        return BigInteger.valueOf(below);
    }

    private static String fraction(long above, long below) {
        BigInteger divisor = BigInteger.valueOf(above).gcd(BigInteger.valueOf(below));
        BigInteger signed = below < 0 ? divisor.negate() : divisor;
        return BigInteger.valueOf(above).divide(signed) + "/" + BigInteger.valueOf(below).divide(signed);
    }

    private static BigInteger at(BigInteger[] polynomial, int t) {
        BigInteger sum = BigInteger.ZERO;
        for (int i = 0; i < polynomial.length; i++) {
            sum = sum.add(polynomial[i].multiply(BigInteger.valueOf(t).pow(i)));
        }
        return sum;
    }

    private static BigInteger[] coefficients(PartsDesk desk, int of) {
        BigInteger[] all = new BigInteger[7];
        for (int i = 0; i < 7; i++) {
            all[i] = BigInteger.valueOf(desk.coefficient(of, i));
        }
        return all;
    }

    private static BigInteger[] without(int[] often, int which, int fewer) {
        BigInteger[] product = {BigInteger.ONE};
        for (int i = 0; i < 7; i++) {
            product = times(product, i - 3, i == which ? often[i] - fewer : often[i]);
        }
        return product;
    }

    private static BigInteger[] times(BigInteger[] polynomial, int root, int often) {
        BigInteger[] product = polynomial;
        for (int n = 0; n < often; n++) {
            BigInteger[] next = new BigInteger[product.length + 1];
            java.util.Arrays.fill(next, BigInteger.ZERO);
            addTo(next, product, BigInteger.ONE, 1);
            addTo(next, product, BigInteger.valueOf(-root), 0);
            product = next;
        }
        return product;
    }

    private static void addTo(BigInteger[] sum, BigInteger[] polynomial, BigInteger factor, int shift) {
        for (int i = 0; i < polynomial.length; i++) {
            sum[i + shift] = sum[i + shift].add(polynomial[i].multiply(factor));
        }
    }
}
