/** Promise 8: obstacle. */
public final class Promise08ObstacleTest {
    private static final Check CHECK = new Check();
    private static final Refused REFUSED = new Refused(CHECK);

    public static void main(String[] args) {
        ordinary();
        primesThatDivideNothing();
        highPrimes();
        minusOneIfIsotropic();
        theRealPlaceComesFirst();
        theLowestOfSeveral();
        noSuchForm();
        CHECK.end();
    }

    private static void ordinary() {
        due(new int[][] {{0}}, -1);
        due(new int[3][3], -1);
        due(Make.diagonal(1, 1, 1, 0), -1);
        due(Make.diagonal(5), 0);
        due(Make.diagonal(-5), 0);
        due(Make.diagonal(1, 1), 0);
        due(Make.diagonal(-1, -3), 0);
        due(Make.diagonal(1, -4), -1);
        due(Make.diagonal(2, -2), -1);
        due(new int[][] {{0, 3}, {3, 5}}, -1);
        due(Make.diagonal(1, -2), 2);
        due(Make.diagonal(1, 1, 1), 0);
        due(Make.diagonal(1, 1, -2), -1);
        due(Make.diagonal(1, 1, -3), 2);
        due(Make.diagonal(1, 2, -5), 2);
        due(Make.diagonal(1, 1, -6), 2);
        due(Make.diagonal(1, -2, -3), 2);
        due(Make.diagonal(5, 3, -1), 3);
        due(Make.diagonal(3, 5, -1), 3);
        due(Make.diagonal(1, 1, 1, 1), 0);
        due(Make.diagonal(1, 1, 1, -1), -1);
        due(Make.diagonal(1, 1, -5, -5), -1);
        due(Make.diagonal(1, 1, -3, -3), 2);
    }

    private static void primesThatDivideNothing() {
        // 17 is a square at 0 and 2, but not at 3; 41 and 65 likewise.
        due(new int[][] {{2, 3}, {3, -4}}, 3);
        due(new int[][] {{4, 5}, {5, -4}}, 3);
        due(new int[][] {{6, 1}, {1, -6}}, 2);
        due(new int[][] {{5, 6}, {6, -1}}, 3);
        due(new int[][] {{4, 1}, {1, -4}}, 3);
    }

    private static void highPrimes() {
        due(new int[][] {{5, -1, -6}, {-1, -6, 2}, {-6, 2, -6}}, 7);
        due(new int[][] {{-3, 5, 6}, {5, 3, 5}, {6, 5, -4}}, 13);
        due(new int[][] {{-5, -6, -6}, {-6, -3, 5}, {-6, 5, 2}}, 19);
        due(new int[][] {{-3, 0, -3, 2}, {0, -4, 5, -1}, {-3, 5, -2, -4}, {2, -1, -4, -4}}, 29);
        due(new int[][] {{5, 5, -1, 5}, {5, -1, 2, -5}, {-1, 2, 4, 4}, {5, -5, 4, 6}}, 53);
    }

    /** Of every rank that can be: below its dimension, and 2 to 4. */
    private static void minusOneIfIsotropic() {
        for (int n = 1; n <= 4; n++) {
            for (int rank = 0; rank < n; rank++) {
                int[] a = new int[n];
                for (int k = 0; k < rank; k++) {
                    a[k] = 1;
                }
                due(Make.diagonal(a), -1);
            }
        }
        due(Make.diagonal(6, -6), -1);
        due(Make.diagonal(1, 1, -5), -1);
        due(Make.diagonal(1, 2, 3, -5), -1);
    }

    /** 0 is before every prime, and every rank without a zero there stops at it. */
    private static void theRealPlaceComesFirst() {
        for (int v = -6; v <= 6; v++) {
            due(Make.diagonal(v), v == 0 ? -1 : 0);
            if (v != 0) {
                due(Make.diagonal(v, v), 0);
                due(Make.diagonal(v, v, v), 0);
                due(Make.diagonal(v, v, v, v), 0);
            }
        }
    }

    /** 2 is the lowest prime; the next ones answer only if those below have a zero. */
    private static void theLowestOfSeveral() {
        // No zero at 2 and 3, at 3 and 5.
        due(Make.diagonal(1, 1, -3), 2);
        due(Make.diagonal(1, -3, -5), 3);
        // -d is 26, 10 and 41, which are no squares at 2, at 2, and at 3.
        due(new int[][] {{2, 6}, {6, 5}}, 2);
        due(new int[][] {{2, 4}, {4, 3}}, 2);
        due(new int[][] {{5, 4}, {4, -5}}, 3);
        due(new int[][] {{6, 5, 3, 1}, {5, 2, -3, -1}, {3, -3, 6, -3}, {1, -1, -3, 4}}, 5);
        due(new int[][] {{1, 0, -2, 3}, {0, -6, 3, 3}, {-2, 3, -1, -4}, {3, 3, -4, -3}}, 7);
    }

    private static void noSuchForm() {
        for (int f : Refused.NO_FORMS) {
            REFUSED.argument("obstacle(" + f + ")", x -> x.obstacle(f));
        }
    }

    private static void due(int[][] m, int want) {
        RationalForms x = new RationalForms();
        for (int f = 0; f < 2; f++) {
            Make.set(x, f, m);
            CHECK.due("obstacle of " + Make.text(m), x.obstacle(f), want);
        }
        if (want > 0) {
            for (int p : new int[] {0, 2, 3, 5, 7, 11, 13, 17, 19, 23, 29, 31, 37, 41, 43, 47, 53}) {
                if (p <= want) {
                    CHECK.due(Make.text(m) + " at " + p, x.isotropicAt(0, p), p < want);
                }
            }
        }
    }
}
