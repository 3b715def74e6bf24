/** Promise 8: obstacle. */
public final class Promise08ObstacleTest {
    private static final Check CHECK = new Check();

    public static void main(String[] args) {
        ordinary();
        primesThatDivideNothing();
        highPrimes();
        wrongInputs();
        CHECK.end();
    }

    private static void ordinary() {
        due(new int[][] {{0}}, -1);
        due(new int[3][3], -1);
        due(Make.diagonal(1, 1, 1, 0), -1);
        due(Make.diagonal(5), 0);
        due(Make.diagonal(-5), 0);
        due(Make.diagonal(1, 1), 0);
        due(Make.diagonal(-1, -3), 0);
        due(Make.diagonal(1, -4), -1);
        due(Make.diagonal(2, -2), -1);
        due(new int[][] {{0, 3}, {3, 5}}, -1);
        due(Make.diagonal(1, -2), 2);
        due(Make.diagonal(1, 1, 1), 0);
        due(Make.diagonal(1, 1, -2), -1);
        due(Make.diagonal(1, 1, -3), 2);
        due(Make.diagonal(1, 2, -5), 2);
        due(Make.diagonal(1, 1, -6), 2);
        due(Make.diagonal(1, -2, -3), 2);
        due(Make.diagonal(5, 3, -1), 3);
        due(Make.diagonal(3, 5, -1), 3);
        due(Make.diagonal(1, 1, 1, 1), 0);
        due(Make.diagonal(1, 1, 1, -1), -1);
        due(Make.diagonal(1, 1, -5, -5), -1);
        due(Make.diagonal(1, 1, -3, -3), 2);
    }

    private static void primesThatDivideNothing() {
        // 17 is a square at 0 and 2, but not at 3; 41 and 65 likewise.
        due(new int[][] {{2, 3}, {3, -4}}, 3);
        due(new int[][] {{4, 5}, {5, -4}}, 3);
        due(new int[][] {{6, 1}, {1, -6}}, 2);
        due(new int[][] {{5, 6}, {6, -1}}, 3);
        due(new int[][] {{4, 1}, {1, -4}}, 3);
    }

    private static void highPrimes() {
        due(new int[][] {{5, -1, -6}, {-1, -6, 2}, {-6, 2, -6}}, 7);
        due(new int[][] {{-3, 5, 6}, {5, 3, 5}, {6, 5, -4}}, 13);
        due(new int[][] {{-5, -6, -6}, {-6, -3, 5}, {-6, 5, 2}}, 19);
        due(new int[][] {{-3, 0, -3, 2}, {0, -4, 5, -1}, {-3, 5, -2, -4}, {2, -1, -4, -4}}, 29);
    }

    private static void wrongInputs() {
        RationalForms x = new RationalForms();
        for (int f : new int[] {-1, 2, Integer.MIN_VALUE, Integer.MAX_VALUE}) {
            CHECK.badArgument("obstacle(" + f + ")", () -> x.obstacle(f));
        }
    }

    private static void due(int[][] m, int want) {
        RationalForms x = new RationalForms();
        for (int f = 0; f < 2; f++) {
            Make.set(x, f, m);
            CHECK.due("obstacle of " + Make.text(m), x.obstacle(f), want);
        }
        if (want > 0) {
            for (int p : new int[] {0, 2, 3, 5, 7, 11, 13, 17, 19, 23, 29}) {
                if (p <= want) {
                    CHECK.due(Make.text(m) + " at " + p, x.isotropicAt(0, p), p < want);
                }
            }
        }
    }
}
