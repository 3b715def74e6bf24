/** Promise 5: symbol. */
public final class Promise05SymbolTest {
    private static final int MIN = Integer.MIN_VALUE;
    private static final int MAX = Integer.MAX_VALUE;
    private static final int[] PLACES = {0, 2, 3, 5, 7, 11, 13, 17, 19, 23, 29, 31};
    private static final Check CHECK = new Check();
    private static final Refused REFUSED = new Refused(CHECK);

    public static void main(String[] args) {
        real();
        atTwo();
        atOddPrimes();
        theEdgesOfInt();
        byCongruences();
        everyOrderAndUnitAtTwo();
        everyOrderAndUnitAtOddPrimes();
        laws();
        nextToZero();
        firstIsZero();
        secondIsZero();
        everyPlaceUpToThousand();
        noSuchPlace();
        whichComesFirst();
        CHECK.end();
    }

    private static void real() {
        due(1, 1, 0, 1);
        due(-1, 1, 0, 1);
        due(1, -1, 0, 1);
        due(-1, -1, 0, -1);
        due(-7, -30, 0, -1);
    }

    private static void atTwo() {
        due(-1, -1, 2, -1);
        due(2, 5, 2, -1);
        due(5, 2, 2, -1);
        due(2, 7, 2, 1);
        due(2, 3, 2, -1);
        due(3, 3, 2, -1);
        due(3, 5, 2, 1);
        due(4, 3, 2, 1);
        due(6, 6, 2, -1);
        due(-2, 3, 2, 1);
        due(8, 5, 2, -1);
    }

    private static void atOddPrimes() {
        due(3, 3, 3, -1);
        due(5, 5, 5, 1);
        due(7, 7, 7, -1);
        due(3, 2, 3, -1);
        due(2, 3, 3, -1);
        due(3, 7, 3, 1);
        due(9, 2, 3, 1);
        due(27, -4, 3, -1);
        due(6, 15, 3, -1);
        due(10, 3, 7, 1);
        // 997 leaves 5 at the division by 8, so that 2 is no remainder; 991 leaves 7.
        due(997, 2, 997, -1);
        due(2, 997, 997, -1);
        due(991, 2, 991, 1);
        due(991, -1, 991, -1);
    }

    private static void theEdgesOfInt() {
        due(MIN, MIN, 0, -1);
        due(MIN, MAX, 0, 1);
        due(MIN, 5, 2, -1);
        due(MAX, MIN, 2, -1);
        due(MIN, -1, 2, -1);
        due(MIN, 3, 3, 1);
        due(MIN, 5, 5, -1);
        due(5, MIN, 5, -1);
        due(1162261467, 2, 3, -1);
        due(1162261467, 1162261467, 3, -1);
        due(387420489, 2, 3, 1);
    }

    /**
     * What the symbol stands for: it is 1 if a * x * x + b * y * y = z * z has a solution other
     * than 0 at the place, which for orders 0 and 1 is seen modulo p^3 (2^5 for 2).
     */
    private static void byCongruences() {
        int[] primes = {2, 3, 5};
        for (int p : primes) {
            int modulus = p == 2 ? 32 : p * p * p;
            for (int a = -11; a <= 11; a++) {
                for (int b = -11; b <= 11; b++) {
                    if (a % (p * p) != 0 && b % (p * p) != 0) {
                        due(a, b, p, solvable(a, b, p, modulus) ? 1 : -1);
                    }
                }
            }
        }
    }

    private static boolean solvable(int a, int b, int p, int modulus) {
        for (int x = 0; x < modulus; x++) {
            for (int y = 0; y < modulus; y++) {
                int left = Math.floorMod(a * x * x + b * y * y, modulus);
                for (int z = 0; z < modulus; z++) {
                    boolean whole = x % p != 0 || y % p != 0 || z % p != 0;
                    if (whole && left == z * z % modulus) {
                        return true;
                    }
                }
            }
        }
        return false;
    }

    /** Units are 1, 3, 5, 7 at 2, of numbers below 0 and of high orders, too. */
    private static void everyOrderAndUnitAtTwo() {
        for (int e = 0; e <= 5; e++) {
            for (int f = 0; f <= 5; f++) {
                for (int u = 1; u <= 7; u += 2) {
                    for (int w = 1; w <= 7; w += 2) {
                        int power = (u - 1) / 2 * ((w - 1) / 2) + e * ((w * w - 1) / 8) + f * ((u * u - 1) / 8);
                        int want = power % 2 == 0 ? 1 : -1;
                        due(u << e, w << f, 2, want);
                        due((u - 8) * (1 << e), w << f, 2, want);
                        due((u + 16) << e, (w - 24) * (1 << f), 2, want);
                    }
                }
            }
        }
    }

    /** Units are 1 to p - 1, of numbers below 0 and of high orders, too. */
    private static void everyOrderAndUnitAtOddPrimes() {
        for (int p : new int[] {3, 5, 7, 31}) {
            boolean[] remainder = new boolean[p];
            for (int x = 1; x < p; x++) {
                remainder[x * x % p] = true;
            }
            for (int u = 1; u < p; u++) {
                for (int w = 1; w < p; w++) {
                    for (int code = 0; code < 16; code++) {
                        int e = code / 4;
                        int f = code % 4;
                        boolean turned = e * f % 2 == 1 && p % 4 == 3;
                        turned ^= f % 2 == 1 && !remainder[u];
                        turned ^= e % 2 == 1 && !remainder[w];
                        due(u * power(p, e), w * power(p, f), p, turned ? -1 : 1);
                        due((u - p) * power(p, e), (w + p) * power(p, f), p, turned ? -1 : 1);
                    }
                }
            }
        }
    }

    private static int power(int p, int e) {
        int result = 1;
        for (int k = 0; k < e; k++) {
            result *= p;
        }
        return result;
    }

    private static void laws() {
        for (int a = -31; a <= 31; a++) {
            for (int b = -31; b <= 31; b++) {
                if (a != 0 && b != 0) {
                    int all = 1;
                    for (int place : PLACES) {
                        all *= symbol(a, b, place);
                        due(b, a, place, symbol(a, b, place));
                        due(a, -a, place, 1);
                        due(a * 36, b * 25, place, symbol(a, b, place));
                        due(a * b, b, place, symbol(a, b, place) * symbol(b, b, place));
                    }
                    CHECK.due("product of all symbols of " + a + ", " + b, all, 1);
                }
            }
        }
    }

    /** The numbers other than 0 that are next to it have symbols at every place. */
    private static void nextToZero() {
        for (int place : PLACES) {
            due(1, 1, place, 1);
            due(1, -1, place, 1);
            due(-1, 1, place, 1);
            due(-1, -1, place, place == 0 || place == 2 ? -1 : 1);
        }
    }

    private static void firstIsZero() {
        for (int place : new int[] {0, 2, 3, 997}) {
            for (int b : new int[] {1, -1, place, MIN, MAX}) {
                REFUSED.arithmetic("symbol(0, " + b + ", " + place + ")", x -> x.symbol(0, b, place));
            }
        }
    }

    private static void secondIsZero() {
        for (int place : new int[] {0, 2, 3, 997}) {
            for (int a : new int[] {1, -1, place, MIN, MAX}) {
                REFUSED.arithmetic("symbol(" + a + ", 0, " + place + ")", x -> x.symbol(a, 0, place));
            }
        }
    }

    private static void everyPlaceUpToThousand() {
        for (int place = -1100; place <= 1100; place++) {
            int asked = place;
            CHECK.due("symbol(1, 1, " + place + ") throws", Answers.thrownBy(() -> symbol(1, 1, asked)),
                    Make.isPlace(place) ? "nothing" : IllegalArgumentException.class);
        }
    }

    private static void noSuchPlace() {
        for (int place : Make.NO_PLACES) {
            REFUSED.argument("symbol(3, 5, " + place + ")", x -> x.symbol(3, 5, place));
        }
    }

    private static void whichComesFirst() {
        REFUSED.arithmetic("symbol(0, 1, 4)", x -> x.symbol(0, 1, 4));
        REFUSED.arithmetic("symbol(1, 0, 1009)", x -> x.symbol(1, 0, 1009));
        REFUSED.arithmetic("symbol(0, 0, -1)", x -> x.symbol(0, 0, -1));
    }

    /** A new object each time: one is good for 512 calls. */
    private static int symbol(int a, int b, int place) {
        return new RationalForms().symbol(a, b, place);
    }

    private static void due(int a, int b, int place, int want) {
        CHECK.due("symbol(" + a + ", " + b + ", " + place + ")", symbol(a, b, place), want);
    }
}
