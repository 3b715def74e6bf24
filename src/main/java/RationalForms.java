/**
 * Quadratic forms with rational variables, told apart by what they are at every place.
 *
 * <p>All rows are made with the object, so that no call of the face makes anything but the
 * exception that it throws. Nothing worked out is kept from one call to the next.
 */
public final class RationalForms {
    private static final int FORMS = 2;
    private static final int MOST_VARIABLES = 4;
    private static final int LARGEST_NUMBER = 6;
    private static final int LARGEST_ARGUMENT = 1000;
    private static final int HIGHEST_PLACE = 1000;
    private static final int REAL = 0;

    private static final int DIMENSION = 0;
    private static final int RANK = 1;
    private static final int POSITIVE = 2;
    private static final int NEGATIVE = 3;
    private static final int DISCRIMINANT = 4;

    private final Form[] forms = new Form[FORMS];
    private final Diagonal[] diagonals = new Diagonal[FORMS];
    private final Reduction reduction = new Reduction();
    private final int[] point = new int[MOST_VARIABLES];

    public RationalForms() {
        for (int f = 0; f < FORMS; f++) {
            forms[f] = new Form();
            diagonals[f] = new Diagonal();
        }
    }

    public void begin(int f, int n) throws IllegalArgumentException {
        checkForm(f);
        if (n < 1 || n > MOST_VARIABLES) {
            throw new IllegalArgumentException("a dimension is 1 to 4");
        }
        forms[f].restart(n);
    }

    public int put(int f, int i, int j, int v)
            throws IllegalArgumentException, IndexOutOfBoundsException {
        checkForm(f);
        if (v < -LARGEST_NUMBER || v > LARGEST_NUMBER) {
            throw new IllegalArgumentException("a number of a form is -6 to 6");
        }
        Form form = forms[f];
        if (!form.hasVariable(i) || !form.hasVariable(j)) {
            throw new IndexOutOfBoundsException("the form has no such variable");
        }
        return form.replaceNumber(i, j, v);
    }

    public int about(int f, int what) throws IllegalArgumentException {
        checkForm(f);
        if (what < DIMENSION || what > DISCRIMINANT) {
            throw new IllegalArgumentException("what is asked about is 0 to 4");
        }
        Diagonal diagonal = diagonalOf(f);
        switch (what) {
            case DIMENSION:
                return diagonal.dimension;
            case RANK:
                return diagonal.rank;
            case POSITIVE:
                return diagonal.positive;
            case NEGATIVE:
                return diagonal.negative;
            default:
                return (int) diagonal.discriminant;
        }
    }

    public int symbol(int a, int b, int place)
            throws ArithmeticException, IllegalArgumentException {
        if (a == 0 || b == 0) {
            throw new ArithmeticException("0 has no symbol");
        }
        checkPlace(place);
        return Places.symbolOf(a, b, place);
    }

    public int hasse(int f, int place) throws IllegalArgumentException {
        checkForm(f);
        checkPlace(place);
        return diagonalOf(f).hasseSign(place);
    }

    public boolean isotropicAt(int f, int place) throws IllegalArgumentException {
        checkForm(f);
        checkPlace(place);
        return diagonalOf(f).hasZeroAt(place);
    }

    public int obstacle(int f) throws IllegalArgumentException {
        checkForm(f);
        return diagonalOf(f).lowestPlaceWithoutZero();
    }

    public boolean takes(int f, int v) throws IllegalArgumentException, ArithmeticException {
        checkForm(f);
        checkArgument(v);
        if (v == 0) {
            throw new ArithmeticException("only numbers other than 0 are taken");
        }
        Diagonal diagonal = diagonalOf(f);
        if (diagonal.rank == 0) {
            return false;
        }
        diagonal.extendBy(-v);
        return diagonal.lowestPlaceWithoutZero() == Diagonal.NO_PLACE;
    }

    public boolean equivalent() {
        Diagonal one = diagonalOf(0);
        Diagonal other = diagonalOf(1);
        // At a prime of neither list both signs are 1.
        return one.dimension == other.dimension
                && one.rank == other.rank
                && one.positive == other.positive
                && one.discriminant == other.discriminant
                && one.hasseSign(REAL) == other.hasseSign(REAL)
                && one.agreesAtOwnPrimes(other)
                && other.agreesAtOwnPrimes(one);
    }

    public long value(int f, int x, int y, int z, int t) throws IllegalArgumentException {
        checkForm(f);
        point[0] = x;
        point[1] = y;
        point[2] = z;
        point[3] = t;
        Form form = forms[f];
        for (int i = 0; i < form.dimension; i++) {
            checkArgument(point[i]);
        }
        return form.valueFor(point);
    }

    public int sign(int f, int k) throws IllegalArgumentException, IndexOutOfBoundsException {
        checkForm(f);
        int prime = diagonalOf(f).primeOfMinusSign(k);
        if (prime == Diagonal.NO_PLACE) {
            throw new IndexOutOfBoundsException("there are not so many primes");
        }
        return prime;
    }

    private void checkForm(int f) {
        if (f < 0 || f >= FORMS) {
            throw new IllegalArgumentException("a form is 0 or 1");
        }
    }

    private void checkPlace(int place) {
        if (place != REAL && (place > HIGHEST_PLACE || !Whole.isPrime(place))) {
            throw new IllegalArgumentException("a place is 0 or a prime up to 1000");
        }
    }

    private void checkArgument(int v) {
        if (v < -LARGEST_ARGUMENT || v > LARGEST_ARGUMENT) {
            throw new IllegalArgumentException("an argument is -1000 to 1000");
        }
    }

    private Diagonal diagonalOf(int f) {
        reduction.reduce(forms[f], diagonals[f]);
        return diagonals[f];
    }

    /** A form as its caller tells it. */
    private static final class Form {
        private int dimension = 1;
        private final int[][] numbers = new int[MOST_VARIABLES][MOST_VARIABLES];

        void restart(int n) {
            dimension = n;
            for (int i = 0; i < MOST_VARIABLES; i++) {
                for (int j = 0; j < MOST_VARIABLES; j++) {
                    numbers[i][j] = 0;
                }
            }
        }

        boolean hasVariable(int i) {
            return i >= 0 && i < dimension;
        }

        int replaceNumber(int i, int j, int v) {
            int old = numbers[i][j];
            numbers[i][j] = v;
            numbers[j][i] = v;
            return old;
        }

        long valueFor(int[] x) {
            long sum = 0;
            for (int i = 0; i < dimension; i++) {
                for (int j = 0; j < dimension; j++) {
                    sum += (long) numbers[i][j] * x[i] * x[j];
                }
            }
            return sum;
        }
    }

    /**
     * Brings a form to a sum of squares without leaving the whole numbers: at each step what is
     * left of the form is the rest of the table divided by the pivot before. Every number of the
     * table is a minor of the form (after a change of variables with determinant 1 or -1), so it
     * stays small and each division comes out even.
     */
    private static final class Reduction {
        private final long[][] table = new long[MOST_VARIABLES][MOST_VARIABLES];
        private int size = 0;

        void reduce(Form form, Diagonal result) {
            copyNumbers(form);
            result.restart(size);
            long last = 1;
            for (int k = 0; k < size && bringPivot(k); k++) {
                long pivot = table[k][k];
                // The term is pivot / last, which has the class of pivot * last.
                result.addTerm(Whole.classOfProduct(Whole.classOf(pivot), Whole.classOf(last)));
                result.addPrimesOf(pivot);
                eliminate(k, pivot, last);
                last = pivot;
            }
        }

        private void copyNumbers(Form form) {
            size = form.dimension;
            for (int i = 0; i < size; i++) {
                for (int j = 0; j < size; j++) {
                    table[i][j] = form.numbers[i][j];
                }
            }
        }

        /** Changes variables so that table[k][k] is not 0; false if all that is left is 0. */
        private boolean bringPivot(int k) {
            for (int i = k; i < size; i++) {
                if (table[i][i] != 0) {
                    swapVariables(i, k);
                    return true;
                }
            }
            for (int i = k; i < size; i++) {
                for (int j = i + 1; j < size; j++) {
                    if (table[i][j] != 0) {
                        addVariable(j, i, k);
                        swapVariables(i, k);
                        return true;
                    }
                }
            }
            return false;
        }

        private void swapVariables(int i, int k) {
            for (int j = 0; j < size; j++) {
                long kept = table[i][j];
                table[i][j] = table[k][j];
                table[k][j] = kept;
            }
            for (int j = 0; j < size; j++) {
                long kept = table[j][i];
                table[j][i] = table[j][k];
                table[j][k] = kept;
            }
        }

        private void addVariable(int from, int to, int start) {
            for (int j = start; j < size; j++) {
                table[to][j] += table[from][j];
            }
            for (int j = start; j < size; j++) {
                table[j][to] += table[j][from];
            }
        }

        /** Neither pivot nor last is 0: bringPivot has looked at both. */
        private void eliminate(int k, long pivot, long last) {
            for (int i = k + 1; i < size; i++) {
                for (int j = k + 1; j < size; j++) {
                    table[i][j] = (table[i][j] * pivot - table[i][k] * table[k][j]) / last;
                }
            }
        }
    }

    /**
     * A sum of squares, each with a factor other than 0 that is held by its class, in as many
     * variables as the dimension says. The primes are 2 and all that divide a factor; at every
     * other prime the Hasse sign is 1, and there is a zero from rank 3 on.
     */
    private static final class Diagonal {
        private static final int NO_PLACE = -1;
        private static final int MOST_TERMS = MOST_VARIABLES + 1;
        // A pivot stays below 2 * 3 * 5 * 7 * 11 * 13 * 17 and so has at most six primes, and the
        // number that takes asks for has at most four: 2 and these are at most 29.
        private static final int MOST_PRIMES = 32;

        private final long[] terms = new long[MOST_TERMS];
        private final int[] primes = new int[MOST_PRIMES];
        private int dimension = 1;
        private int rank = 0;
        private int positive = 0;
        private int negative = 0;
        private long discriminant = 1;
        private int primeCount = 0;

        void restart(int n) {
            dimension = n;
            rank = 0;
            positive = 0;
            negative = 0;
            discriminant = 1;
            primeCount = 0;
            addPrime(2);
        }

        void addTerm(long factor) {
            if (rank >= MOST_TERMS) {
                return;
            }
            terms[rank] = factor;
            rank++;
            if (factor > 0) {
                positive++;
            } else {
                negative++;
            }
            discriminant = Whole.classOfProduct(discriminant, factor);
        }

        void addPrimesOf(long number) {
            long rest = Math.abs(number);
            for (long p = 2; p * p <= rest; p++) {
                if (rest % p == 0) {
                    addPrime((int) p);
                    rest = Whole.withoutFactor(rest, p);
                }
            }
            if (rest > 1) {
                addPrime((int) rest);
            }
        }

        private void addPrime(int p) {
            int at = 0;
            while (at < primeCount && primes[at] < p) {
                at++;
            }
            boolean known = at < primeCount && primes[at] == p;
            if (known || primeCount >= MOST_PRIMES) {
                return;
            }
            for (int k = primeCount; k > at; k--) {
                primes[k] = primes[k - 1];
            }
            primes[at] = p;
            primeCount++;
        }

        /** The terms alone with one more: variables without a term fall away. */
        void extendBy(int number) {
            addTerm(Whole.classOf(number));
            addPrimesOf(number);
            dimension = rank;
        }

        int hasseSign(int place) {
            int product = 1;
            for (int i = 0; i < rank; i++) {
                for (int j = i + 1; j < rank; j++) {
                    product *= Places.symbolOf(terms[i], terms[j], place);
                }
            }
            return product;
        }

        boolean hasZeroAt(int place) {
            if (rank < dimension) {
                return true;
            }
            switch (rank) {
                case 1:
                    return false;
                case 2:
                    return Places.isSquare(-discriminant, place);
                case 3:
                    return hasseSign(place) == Places.symbolOf(-1, -discriminant, place);
                case 4:
                    return !Places.isSquare(discriminant, place)
                            || hasseSign(place) == Places.symbolOf(-1, -1, place);
                default:
                    return place != REAL || (positive > 0 && negative > 0);
            }
        }

        int lowestPlaceWithoutZero() {
            if (!hasZeroAt(REAL)) {
                return REAL;
            }
            for (int k = 0; k < primeCount; k++) {
                if (!hasZeroAt(primes[k])) {
                    return rank == 2 ? lowestPrimeWithoutRoot(primes[k]) : primes[k];
                }
            }
            // For rank 2 this is right, too: a class other than 1 is no square at its own primes.
            return NO_PLACE;
        }

        /** For rank 2 a prime outside the list can lack a zero, too, and be lower than highest. */
        private int lowestPrimeWithoutRoot(int highest) {
            for (int p = 2; p < highest; p++) {
                if (Whole.isPrime(p) && !Places.isSquare(-discriminant, p)) {
                    return p;
                }
            }
            return highest;
        }

        boolean agreesAtOwnPrimes(Diagonal other) {
            for (int k = 0; k < primeCount; k++) {
                if (hasseSign(primes[k]) != other.hasseSign(primes[k])) {
                    return false;
                }
            }
            return true;
        }

        /** NO_PLACE if there are not so many. */
        int primeOfMinusSign(int k) {
            int met = 0;
            for (int at = 0; at < primeCount; at++) {
                if (hasseSign(primes[at]) == -1) {
                    if (met == k) {
                        return primes[at];
                    }
                    met++;
                }
            }
            return NO_PLACE;
        }
    }

    /** What a whole number other than 0 is at a place: the real one or any prime. */
    private static final class Places {
        private static final int BITS = 31;

        static int symbolOf(long a, long b, int place) {
            if (place == REAL) {
                return a < 0 && b < 0 ? -1 : 1;
            }
            int e = orderOf(a, place) % 2;
            int f = orderOf(b, place) % 2;
            int u = unitOf(a, place);
            int w = unitOf(b, place);
            return place == 2 ? symbolAtTwo(e, f, u, w) : symbolAtOdd(e, f, u, w, place);
        }

        private static int symbolAtTwo(int e, int f, int u, int w) {
            int power = (u - 1) / 2 * ((w - 1) / 2) + e * ((w * w - 1) / 8) + f * ((u * u - 1) / 8);
            return power % 2 == 0 ? 1 : -1;
        }

        private static int symbolAtOdd(int e, int f, int u, int w, int p) {
            int result = e * f * ((p - 1) / 2) % 2 == 0 ? 1 : -1;
            if (f == 1 && !isRemainder(u, p)) {
                result = -result;
            }
            if (e == 1 && !isRemainder(w, p)) {
                result = -result;
            }
            return result;
        }

        static boolean isSquare(long a, int place) {
            if (place == REAL) {
                return a > 0;
            }
            if (orderOf(a, place) % 2 != 0) {
                return false;
            }
            int unit = unitOf(a, place);
            return place == 2 ? unit == 1 : isRemainder(unit, place);
        }

        private static int orderOf(long a, int p) {
            long rest = a;
            int order = 0;
            while (order < Whole.MOST_FACTORS && rest % p == 0) {
                rest /= p;
                order++;
            }
            return order;
        }

        private static int unitOf(long a, int p) {
            long unit = Whole.withoutFactor(a, p);
            return (int) Math.floorMod(unit, p == 2 ? 8L : (long) p);
        }

        /** By Euler's criterion: u to the power of (p - 1) / 2 leaves 1 just for such remainders. */
        private static boolean isRemainder(int u, int p) {
            int exponent = (p - 1) / 2;
            long power = 1;
            long square = u;
            for (int bit = 0; bit < BITS; bit++) {
                if ((exponent >> bit) % 2 == 1) {
                    power = power * square % p;
                }
                square = square * square % p;
            }
            return power == 1;
        }
    }

    /** Whole numbers without any place. */
    private static final class Whole {
        private static final int MOST_FACTORS = 64;
        private static final int MOST_DIVISIONS = 128;

        static boolean isPrime(int n) {
            if (n < 2) {
                return false;
            }
            for (long d = 2; d * d <= n; d++) {
                if (n % d == 0) {
                    return false;
                }
            }
            return true;
        }

        /** For a factor above 1. */
        static long withoutFactor(long number, long factor) {
            long rest = number;
            for (int step = 0; step < MOST_FACTORS && rest % factor == 0; step++) {
                rest /= factor;
            }
            return rest;
        }

        static long classOf(long number) {
            long rest = number;
            for (long d = 2; d * d <= Math.abs(rest); d++) {
                rest = withoutFactor(rest, d * d);
            }
            return rest;
        }

        /** For two classes; what they share is a square in their product. */
        static long classOfProduct(long a, long b) {
            long shared = sharedFactor(a, b);
            return a / shared * (b / shared);
        }

        private static long sharedFactor(long a, long b) {
            long larger = Math.abs(a);
            long rest = Math.abs(b);
            for (int step = 0; step < MOST_DIVISIONS && rest != 0; step++) {
                long next = larger % rest;
                larger = rest;
                rest = next;
            }
            // Never below 1, so that it can divide.
            return Math.max(larger, 1);
        }
    }
}
