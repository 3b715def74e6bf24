/** Promise 7: isotropicAt. */
public final class Promise07IsotropicAtTest {
    private static final Check CHECK = new Check();
    private static final Refused REFUSED = new Refused(CHECK);

    public static void main(String[] args) {
        rankBelowDimension();
        rankOne();
        rankTwo();
        squaresAtTwo();
        squaresAtOddPrimes();
        atTheRealPlace();
        rankThree();
        rankFour();
        noSuchForm();
        everyPlaceUpToThousand();
        noSuchPlace();
        CHECK.end();
    }

    /** At every place, even where its terms alone have no zero. */
    private static void rankBelowDimension() {
        for (int place : new int[] {0, 2, 3, 997}) {
            for (int n = 1; n <= 4; n++) {
                for (int rank = 0; rank < n; rank++) {
                    int[] a = new int[n];
                    for (int k = 0; k < rank; k++) {
                        a[k] = 1;
                    }
                    due(Make.diagonal(a), place, true);
                }
            }
            due(new int[][] {{1, 1}, {1, 1}}, place, true);
        }
    }

    /** Rank 1 in one variable: never. */
    private static void rankOne() {
        for (int place : new int[] {0, 2, 3, 5, 997}) {
            for (int v = -6; v <= 6; v++) {
                due(Make.diagonal(v), place, v == 0);
            }
        }
    }

    private static void rankTwo() {
        due(Make.diagonal(1, 1), 0, false);
        due(Make.diagonal(1, -2), 0, true);
        due(Make.diagonal(1, 1), 2, false);
        due(Make.diagonal(1, 1), 3, false);
        due(Make.diagonal(1, 1), 5, true);
        due(Make.diagonal(1, 1), 997, true);
        due(Make.diagonal(1, 1), 991, false);
        due(Make.diagonal(1, -4), 2, true);
        due(Make.diagonal(3, -3), 3, true);
        due(Make.diagonal(1, -3), 3, false);
        due(Make.diagonal(1, -2), 7, true);
        // 17 leaves 1 at the division by 8, 5 leaves 5.
        due(new int[][] {{1, 1}, {1, -4}}, 2, false);
        due(new int[][] {{2, 3}, {3, -4}}, 2, true);
        due(new int[][] {{2, 3}, {3, -4}}, 17, false);
    }

    /** -d is 17, 3, 5, 7 and 2 of the units 1, 3, 5, 7 and the order 1: a square at 2 is 17 alone. */
    private static void squaresAtTwo() {
        due(new int[][] {{1, 4}, {4, -1}}, 2, true);
        due(new int[][] {{1, 0}, {0, -3}}, 2, false);
        due(new int[][] {{1, 0}, {0, -5}}, 2, false);
        due(new int[][] {{1, 1}, {1, -6}}, 2, false);
        due(new int[][] {{1, 0}, {0, -2}}, 2, false);
        // -d is -7 of the unit 1, and -1 of the unit 7.
        due(new int[][] {{2, 1}, {1, 4}}, 2, true);
        due(new int[][] {{1, 0}, {0, 1}}, 2, false);
    }

    /** -d is 1 to 6 and their like: at 5 the remainders are 1 and 4, at 7 they are 1, 2 and 4. */
    private static void squaresAtOddPrimes() {
        boolean[] atFive = {true, false, false, true, false, true};
        boolean[] atSeven = {true, true, false, true, false, false};
        for (int v = 1; v <= 6; v++) {
            due(Make.diagonal(1, -v), 5, atFive[v - 1]);
            due(Make.diagonal(1, -v), 7, atSeven[v - 1]);
            due(Make.diagonal(-1, v), 7, atSeven[v - 1]);
        }
        due(Make.diagonal(1, 6), 7, true);
        due(Make.diagonal(1, 1), 7, false);
    }

    /** At 0 the ranks 2 to 4 have a zero just if positive and negative are both above 0. */
    private static void atTheRealPlace() {
        for (int n = 2; n <= 4; n++) {
            for (int positive = 0; positive <= n; positive++) {
                int[] a = new int[n];
                for (int k = 0; k < n; k++) {
                    a[k] = k < positive ? 1 + k : -1 - k;
                }
                due(Make.diagonal(a), 0, positive > 0 && positive < n);
            }
        }
    }

    private static void rankThree() {
        due(Make.diagonal(1, 1, 1), 0, false);
        due(Make.diagonal(1, 1, 1), 2, false);
        due(Make.diagonal(1, 1, 1), 3, true);
        due(Make.diagonal(1, 1, -3), 0, true);
        due(Make.diagonal(1, 1, -3), 2, false);
        due(Make.diagonal(1, 1, -3), 3, false);
        due(Make.diagonal(1, 1, -3), 5, true);
        due(Make.diagonal(1, 1, -2), 2, true);
        due(Make.diagonal(-1, -1, -1), 0, false);
        due(Make.diagonal(1, -5, -3), 3, false);
        due(Make.diagonal(1, -5, -3), 5, false);
    }

    private static void rankFour() {
        due(Make.diagonal(1, 1, 1, 1), 0, false);
        due(Make.diagonal(-1, -1, -1, -1), 0, false);
        due(Make.diagonal(1, 1, 1, 1), 2, false);
        due(Make.diagonal(1, 1, 1, 1), 3, true);
        due(Make.diagonal(1, 1, -1, -1), 0, true);
        due(Make.diagonal(1, 1, 1, -1), 0, true);
        due(Make.diagonal(1, 1, 1, -1), 2, true);
        // No zero at 3: 2 is no remainder, so that 1, -2 and 3 * (1, -2) have none there.
        due(Make.diagonal(1, -2, 3, -6), 3, false);
        due(Make.diagonal(1, -2, 3, -6), 2, false);
        due(Make.diagonal(1, -2, 3, -6), 0, true);
        due(Make.diagonal(1, -2, 3, -6), 5, true);
        due(Make.diagonal(1, 1, 3, 3), 3, false);
        due(Make.diagonal(1, 1, 5, 5), 5, true);
        due(Make.diagonal(1, -2, 5, 5), 5, true);
    }

    private static void noSuchForm() {
        for (int f : Refused.NO_FORMS) {
            for (int place : new int[] {0, 2, 997, 4}) {
                REFUSED.argument("isotropicAt(" + f + ", " + place + ")", x -> x.isotropicAt(f, place));
            }
        }
    }

    private static void everyPlaceUpToThousand() {
        for (int place = -1100; place <= 1100; place++) {
            RationalForms x = Make.form(1, 2);
            int asked = place;
            CHECK.due("isotropicAt(0, " + place + ") throws", Answers.thrownBy(() -> x.isotropicAt(0, asked)),
                    Make.isPlace(place) ? "nothing" : IllegalArgumentException.class);
        }
    }

    /** Of a form of rank 0 or below its dimension, too. */
    private static void noSuchPlace() {
        for (int place : Make.NO_PLACES) {
            REFUSED.argument("isotropicAt(0, " + place + ")", x -> x.isotropicAt(0, place));
            REFUSED.argument("isotropicAt(1, " + place + ")", x -> x.isotropicAt(1, place));
        }
    }

    private static void due(int[][] m, int place, boolean want) {
        CHECK.due("isotropicAt of " + Make.text(m) + " at " + place, Make.form(m).isotropicAt(0, place), want);
    }
}
