/** Promise 5: symbol. */
public final class Promise05SymbolTest {
    private static final int MIN = Integer.MIN_VALUE;
    private static final int MAX = Integer.MAX_VALUE;
    private static final int[] PLACES = {0, 2, 3, 5, 7, 11, 13, 17, 19, 23, 29, 31};
    private static final Check CHECK = new Check();

    public static void main(String[] args) {
        real();
        atTwo();
        atOddPrimes();
        theEdgesOfInt();
        byCongruences();
        laws();
        wrongInputs();
        CHECK.end();
    }

    private static void real() {
        due(1, 1, 0, 1);
        due(-1, 1, 0, 1);
        due(1, -1, 0, 1);
        due(-1, -1, 0, -1);
        due(-7, -30, 0, -1);
    }

    private static void atTwo() {
        due(-1, -1, 2, -1);
        due(2, 5, 2, -1);
        due(5, 2, 2, -1);
        due(2, 7, 2, 1);
        due(2, 3, 2, -1);
        due(3, 3, 2, -1);
        due(3, 5, 2, 1);
        due(4, 3, 2, 1);
        due(6, 6, 2, -1);
        due(-2, 3, 2, 1);
        due(8, 5, 2, -1);
    }

    private static void atOddPrimes() {
        due(3, 3, 3, -1);
        due(5, 5, 5, 1);
        due(7, 7, 7, -1);
        due(3, 2, 3, -1);
        due(2, 3, 3, -1);
        due(3, 7, 3, 1);
        due(9, 2, 3, 1);
        due(27, -4, 3, -1);
        due(6, 15, 3, -1);
        due(10, 3, 7, 1);
        // 997 leaves 5 at the division by 8, so that 2 is no remainder; 991 leaves 7.
        due(997, 2, 997, -1);
        due(2, 997, 997, -1);
        due(991, 2, 991, 1);
        due(991, -1, 991, -1);
    }

    private static void theEdgesOfInt() {
        due(MIN, MIN, 0, -1);
        due(MIN, MAX, 0, 1);
        due(MIN, 5, 2, -1);
        due(MAX, MIN, 2, -1);
        due(MIN, -1, 2, -1);
        due(MIN, 3, 3, 1);
        due(MIN, 5, 5, -1);
        due(5, MIN, 5, -1);
        due(1162261467, 2, 3, -1);
        due(1162261467, 1162261467, 3, -1);
        due(387420489, 2, 3, 1);
    }

    /**
     * What the symbol stands for: it is 1 if a * x * x + b * y * y = z * z has a solution other
     * than 0 at the place, which for orders 0 and 1 is seen modulo p^3 (2^5 for 2).
     */
    private static void byCongruences() {
        int[] primes = {2, 3, 5};
        for (int p : primes) {
            int modulus = p == 2 ? 32 : p * p * p;
            for (int a = -11; a <= 11; a++) {
                for (int b = -11; b <= 11; b++) {
                    if (a % (p * p) != 0 && b % (p * p) != 0) {
                        due(a, b, p, solvable(a, b, p, modulus) ? 1 : -1);
                    }
                }
            }
        }
    }

    private static boolean solvable(int a, int b, int p, int modulus) {
        for (int x = 0; x < modulus; x++) {
            for (int y = 0; y < modulus; y++) {
                int left = Math.floorMod(a * x * x + b * y * y, modulus);
                for (int z = 0; z < modulus; z++) {
                    boolean whole = x % p != 0 || y % p != 0 || z % p != 0;
                    if (whole && left == z * z % modulus) {
                        return true;
                    }
                }
            }
        }
        return false;
    }

    private static void laws() {
        for (int a = -31; a <= 31; a++) {
            for (int b = -31; b <= 31; b++) {
                if (a != 0 && b != 0) {
                    int all = 1;
                    for (int place : PLACES) {
                        all *= symbol(a, b, place);
                        due(b, a, place, symbol(a, b, place));
                        due(a, -a, place, 1);
                        due(a * 36, b * 25, place, symbol(a, b, place));
                        due(a * b, b, place, symbol(a, b, place) * symbol(b, b, place));
                    }
                    CHECK.due("product of all symbols of " + a + ", " + b, all, 1);
                }
            }
        }
    }

    private static void wrongInputs() {
        for (int place : new int[] {1, 4, 6, 9, 15, 49, 961, 999, 1000, 1009, 1013, -1, -2, -3, MIN, MAX}) {
            CHECK.badArgument("symbol(3, 5, " + place + ")", () -> symbol(3, 5, place));
        }
        for (int place : new int[] {0, 2, 3, 997}) {
            CHECK.badArithmetic("symbol(0, 1, " + place + ")", () -> symbol(0, 1, place));
            CHECK.badArithmetic("symbol(1, 0, " + place + ")", () -> symbol(1, 0, place));
            CHECK.badArithmetic("symbol(0, 0, " + place + ")", () -> symbol(0, 0, place));
        }
        CHECK.badArithmetic("symbol(0, 1, 4)", () -> symbol(0, 1, 4));
    }

    /** A new object each time: one is good for 512 calls. */
    private static int symbol(int a, int b, int place) {
        return new RationalForms().symbol(a, b, place);
    }

    private static void due(int a, int b, int place, int want) {
        CHECK.due("symbol(" + a + ", " + b + ", " + place + ")", symbol(a, b, place), want);
    }
}
