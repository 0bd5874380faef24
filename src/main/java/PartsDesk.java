import java.util.Arrays;

/**
 * A rational function with whole numbers, numerator / denominator, read from texts, taken apart
 * into a polynomial and partial fractions, and integrated by these.
 *
 * Every answer that asks for the parts is given from what takeApart() has made ready, which is done
 * anew each time the numerator or the denominator changes; so the rows below are made only once.
 */
public final class PartsDesk {
    private static final int LEAST_ROOT = -3;
    private static final int GREATEST_ROOT = 3;
    private static final int POSSIBLE_ROOTS = GREATEST_ROOT - LEAST_ROOT + 1;
    private static final int MOST_ROOTS = 5;
    private static final int MOST_TIMES_IN_A_FACTOR = 3;
    private static final int GREATEST_POWER = 6;
    /** Stands for the root of a text that tells none. */
    private static final int NO_ROOT = GREATEST_ROOT + 1;
    private static final int MOST_WRITTEN = 30;
    private static final char FIRST_CHARACTER = ' ';
    private static final char LAST_CHARACTER = '~';
    private static final int FARTHEST_WHOLE_NUMBER = 20;
    private static final int FARTHEST_NUMBER = 100;
    /** What integral takes in place of a root to ask for its polynomial. */
    private static final int THE_POLYNOMIAL = 9;
    /** Euclid needs fewer than 93 steps for any two longs. */
    private static final int MOST_DIVISOR_STEPS = 100;

    private final Draft draft = new Draft();
    private final Polynomial above = new Polynomial();
    private final Polynomial below = new Polynomial();
    private final Polynomial quotient = new Polynomial();
    /** How often each root comes, the least root first. */
    private final int[] often = new int[POSSIBLE_ROOTS];
    /** The fractions a(r, k), MOST_ROOTS places for each root; 0 / 1 where there is no part. */
    private final long[] partsAbove = new long[POSSIBLE_ROOTS * MOST_ROOTS];
    private final long[] partsBelow = new long[POSSIBLE_ROOTS * MOST_ROOTS];

    /** What a draft says is read to here first, since a wrong draft must change nothing. */
    private final Polynomial readTerms = new Polynomial();
    private final int[] readOften = new int[POSSIBLE_ROOTS];

    private final Polynomial rest = new Polynomial();
    private final Polynomial otherFactors = new Polynomial();

    public PartsDesk() {
        often[-LEAST_ROOT] = 1;
        takeApart();
    }

    public boolean write(char c) {
        return draft.append(c);
    }

    public int numerator() throws IllegalArgumentException {
        boolean isPolynomial = readPolynomial();
        draft.empty();
        if (!isPolynomial) {
            throw new IllegalArgumentException("the draft is no polynomial");
        }
        above.become(readTerms);
        takeApart();
        return above.degree();
    }

    public int denominator() throws IllegalArgumentException, IllegalStateException {
        boolean isProduct = readProduct();
        draft.empty();
        if (!isProduct) {
            throw new IllegalArgumentException("the draft is no product");
        }
        if (sum(readOften) > MOST_ROOTS) {
            throw new IllegalStateException("the product has more than 5 roots");
        }
        System.arraycopy(readOften, 0, often, 0, POSSIBLE_ROOTS);
        takeApart();
        return below.degree();
    }

    public long coefficient(int of, int i) {
        switch (of) {
            case 0:
                return above.get(i);
            case 1:
                return below.get(i);
            case 2:
                return quotient.get(i);
            default:
                return 0L;
        }
    }

    public int many(int root) {
        return isPossibleRoot(root) ? often[root - LEAST_ROOT] : 0;
    }

    public long part(int root, int k, int w) throws IllegalArgumentException {
        if (k < 1 || k > many(root) || !isSide(w)) {
            throw new IllegalArgumentException("no such part, or w is not 0 or 1");
        }
        return w == 0 ? partAbove(root, k) : partBelow(root, k);
    }

    public long integral(int root, int k, int w) throws IllegalArgumentException {
        if (!isInIntegral(root, k) || !isSide(w)) {
            throw new IllegalArgumentException("the integral has no such place, or w is not 0 or 1");
        }
        if (root == THE_POLYNOMIAL) {
            return inLowestTerms(quotient.get(k - 1), k, w);
        }
        if (k == 0) {
            return w == 0 ? partAbove(root, 1) : partBelow(root, 1);
        }
        return inLowestTerms(-partAbove(root, k + 1), partBelow(root, k + 1) * k, w);
    }

    public long value(int t, int w) throws IllegalArgumentException {
        if (t < -FARTHEST_WHOLE_NUMBER || t > FARTHEST_WHOLE_NUMBER || many(t) > 0 || !isSide(w)) {
            throw new IllegalArgumentException("t is a root or not -20 .. 20, or w is not 0 or 1");
        }
        return inLowestTerms(above.exactlyAt(t), below.exactlyAt(t), w);
    }

    public double at(double x) throws IllegalArgumentException {
        if (!isNear(x)) {
            throw new IllegalArgumentException("x is not -100.0 .. 100.0");
        }
        double divisor = below.inDoublesAt(x);
        return divisor == 0.0 ? 0.0 : above.inDoublesAt(x) / divisor;
    }

    public double byParts(double x) throws IllegalArgumentException {
        if (!isNear(x)) {
            throw new IllegalArgumentException("x is not -100.0 .. 100.0");
        }
        double sum = quotient.inDoublesAt(x);
        for (int root = LEAST_ROOT; root <= GREATEST_ROOT; root++) {
            sum = withPartsOf(root, x, sum);
        }
        return sum;
    }

    /** Takes the sum so far, and not the parts' own sum, since doubles round at each addition. */
    private double withPartsOf(int root, double x, double sumSoFar) {
        double sum = sumSoFar;
        double distance = x - root;
        double p = distance;
        int times = many(root);
        for (int k = 1; k <= times; k++) {
            if (p != 0.0) {
                sum = sum + ((double) partAbove(root, k) / (double) partBelow(root, k)) / p;
            }
            p = p * distance;
        }
        return sum;
    }

    private static boolean isPossibleRoot(int root) {
        return root >= LEAST_ROOT && root <= GREATEST_ROOT;
    }

    private static boolean isSide(int w) {
        return w == 0 || w == 1;
    }

    /** Asked as "is within" so that NaN, which is within nothing, is refused too. */
    private static boolean isNear(double x) {
        return x >= -FARTHEST_NUMBER && x <= FARTHEST_NUMBER;
    }

    private boolean isInIntegral(int root, int k) {
        return root == THE_POLYNOMIAL ? k >= 1 : k >= 0 && k < many(root);
    }

    private static int placeOfPart(int root, int k) {
        boolean isPlace = isPossibleRoot(root) && k >= 1 && k <= MOST_ROOTS;
        return isPlace ? (root - LEAST_ROOT) * MOST_ROOTS + k - 1 : -1;
    }

    private long partAbove(int root, int k) {
        int place = placeOfPart(root, k);
        return place < 0 ? 0L : partsAbove[place];
    }

    private long partBelow(int root, int k) {
        int place = placeOfPart(root, k);
        return place < 0 ? 1L : partsBelow[place];
    }

    private void keepPart(int root, int k, long numerator, long denominator) {
        int place = placeOfPart(root, k);
        if (place >= 0) {
            partsAbove[place] = inLowestTerms(numerator, denominator, 0);
            partsBelow[place] = inLowestTerms(numerator, denominator, 1);
        }
    }

    /** One side of a fraction (w = 0: the numerator), so that no call has to make an object for it. */
    private static long inLowestTerms(long numerator, long denominator, int w) {
        long divisor = commonDivisor(numerator, denominator);
        // No fraction of a function comes here with denominator 0; this keeps the division safe by itself.
        if (denominator == 0L || divisor == 0L) {
            return w == 0 ? 0L : 1L;
        }
        long signed = denominator < 0L ? -divisor : divisor;
        return (w == 0 ? numerator : denominator) / signed;
    }

    private static long commonDivisor(long a, long b) {
        long divisor = Math.abs(a);
        long left = Math.abs(b);
        for (int step = 0; step < MOST_DIVISOR_STEPS && left != 0L; step++) {
            long next = divisor % left;
            divisor = left;
            left = next;
        }
        return divisor;
    }

    private static int sum(int[] numbers) {
        int sum = 0;
        for (int number : numbers) {
            sum += number;
        }
        return sum;
    }

    private void takeApart() {
        below.becomeOne();
        quotient.become(above);
        Arrays.fill(partsAbove, 0L);
        Arrays.fill(partsBelow, 1L);
        for (int root = LEAST_ROOT; root <= GREATEST_ROOT; root++) {
            int times = many(root);
            for (int n = 0; n < times; n++) {
                below.multiplyByFactorOf(root);
                quotient.divideByFactorOf(root);
            }
            makePartsOf(root);
        }
    }

    /**
     * With the function as rest / ((x - r)^k G), a(r, k) is rest(r) / G(r). What this part leaves,
     * (rest - a G) / ((x - r)^k G), has x - r above and below, so it is again such a function, with
     * k less by 1. The rest is kept multiplied by G(r) each time (scale), so that it stays whole.
     */
    private void makePartsOf(int root) {
        rest.become(above);
        multiplyOtherFactors(root);
        long othersAtRoot = otherFactors.divideByFactorOf(root);
        long scale = 1L;
        for (int k = many(root); k >= 1; k--) {
            long restAtRoot = rest.divideByFactorOf(root);
            scale = scale * othersAtRoot;
            keepPart(root, k, restAtRoot, scale);
            rest.mix(othersAtRoot, -restAtRoot, otherFactors);
        }
    }

    private void multiplyOtherFactors(int root) {
        otherFactors.becomeOne();
        for (int other = LEAST_ROOT; other <= GREATEST_ROOT; other++) {
            int times = other == root ? 0 : many(other);
            for (int n = 0; n < times; n++) {
                otherFactors.multiplyByFactorOf(other);
            }
        }
    }

    private boolean readPolynomial() {
        readTerms.becomeZero();
        boolean isGood = readTerm(true);
        for (int n = 1; n < MOST_WRITTEN && isGood && !draft.isAtEnd(); n++) {
            isGood = readTerm(false);
        }
        return isGood && draft.isAtEnd();
    }

    private boolean readTerm(boolean isFirst) {
        boolean isMinus = draft.takes('-');
        if (!isMinus && !draft.takes('+') && !isFirst) {
            return false;
        }
        int number = readNumber();
        boolean hasX = draft.takes('x');
        int power = hasX ? readPowerOfX() : 0;
        if (number < 0 && !hasX || power < 0) {
            return false;
        }
        int amount = number < 0 ? 1 : number;
        readTerms.add(isMinus ? -amount : amount, power);
        return true;
    }

    /** One or two digits; -1 when there are none. */
    private int readNumber() {
        int first = draft.takeDigit(0, 9);
        int second = first < 0 ? -1 : draft.takeDigit(0, 9);
        return second < 0 ? first : 10 * first + second;
    }

    /** -1 when ^ has no fitting digit behind it. */
    private int readPowerOfX() {
        return draft.takes('^') ? draft.takeDigit(0, GREATEST_POWER) : 1;
    }

    private boolean readProduct() {
        Arrays.fill(readOften, 0);
        boolean isGood = readFactor();
        for (int n = 1; n < MOST_WRITTEN && isGood && !draft.isAtEnd(); n++) {
            isGood = readFactor();
        }
        return isGood && draft.isAtEnd();
    }

    private boolean readFactor() {
        if (!draft.takes('(') || !draft.takes('x')) {
            return false;
        }
        int root = readRoot();
        if (!isPossibleRoot(root) || !draft.takes(')')) {
            return false;
        }
        int times = draft.takes('^') ? draft.takeDigit(1, MOST_TIMES_IN_A_FACTOR) : 1;
        if (times < 0) {
            return false;
        }
        readOften[root - LEAST_ROOT] += times;
        return true;
    }

    /** The root that +n, -n or nothing makes of x; NO_ROOT when a sign has no fitting digit. */
    private int readRoot() {
        boolean isMinus = draft.takes('-');
        if (!isMinus && !draft.takes('+')) {
            return 0;
        }
        int n = draft.takeDigit(1, GREATEST_ROOT);
        if (n < 0) {
            return NO_ROOT;
        }
        return isMinus ? n : -n;
    }

    /** The characters written, and how far they have been read. */
    private static final class Draft {
        private final char[] characters = new char[MOST_WRITTEN];
        private int length;
        private int next;

        boolean append(char c) {
            if (length >= MOST_WRITTEN || c < FIRST_CHARACTER || c > LAST_CHARACTER) {
                return false;
            }
            characters[length] = c;
            length++;
            return true;
        }

        void empty() {
            length = 0;
            next = 0;
        }

        boolean isAtEnd() {
            return next >= length;
        }

        boolean takes(char c) {
            boolean isThere = !isAtEnd() && characters[next] == c;
            if (isThere) {
                next++;
            }
            return isThere;
        }

        /** -1, and nothing is taken, when no digit least .. greatest comes next. */
        int takeDigit(int least, int greatest) {
            int digit = isAtEnd() ? -1 : characters[next] - '0';
            if (digit < least || digit > greatest) {
                return -1;
            }
            next++;
            return digit;
        }
    }

    /** Whole coefficients of the powers 0 .. GREATEST_POWER. */
    private static final class Polynomial {
        private final long[] coefficients = new long[GREATEST_POWER + 1];

        void becomeZero() {
            Arrays.fill(coefficients, 0L);
        }

        void becomeOne() {
            becomeZero();
            coefficients[0] = 1L;
        }

        void become(Polynomial other) {
            System.arraycopy(other.coefficients, 0, coefficients, 0, GREATEST_POWER + 1);
        }

        long get(int power) {
            return power >= 0 && power <= GREATEST_POWER ? coefficients[power] : 0L;
        }

        void add(long amount, int power) {
            if (power >= 0 && power <= GREATEST_POWER) {
                coefficients[power] += amount;
            }
        }

        int degree() {
            int degree = GREATEST_POWER;
            while (degree > 0 && coefficients[degree] == 0L) {
                degree--;
            }
            return degree;
        }

        void multiplyByFactorOf(int root) {
            for (int i = GREATEST_POWER; i > 0; i--) {
                coefficients[i] = coefficients[i - 1] - root * coefficients[i];
            }
            coefficients[0] = -root * coefficients[0];
        }

        /** Leaves the quotient by x - root, and answers the remainder, which is the value at root. */
        long divideByFactorOf(int root) {
            long carried = 0L;
            for (int i = GREATEST_POWER; i >= 0; i--) {
                long next = coefficients[i] + root * carried;
                coefficients[i] = carried;
                carried = next;
            }
            return carried;
        }

        /** Becomes own times itself plus others times the other. */
        void mix(long own, long others, Polynomial other) {
            for (int i = 0; i <= GREATEST_POWER; i++) {
                coefficients[i] = own * coefficients[i] + others * other.coefficients[i];
            }
        }

        long exactlyAt(int t) {
            long sum = 0L;
            for (int i = GREATEST_POWER; i >= 0; i--) {
                sum = sum * t + coefficients[i];
            }
            return sum;
        }

        /** The powers above the degree add nothing, not even another sign of zero. */
        double inDoublesAt(double x) {
            double sum = 0.0;
            for (int i = GREATEST_POWER; i >= 0; i--) {
                sum = sum * x + (double) coefficients[i];
            }
            return sum;
        }
    }
}
