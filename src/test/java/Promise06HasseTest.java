/** Promise 6: hasse. */
public final class Promise06HasseTest {
    private static final Check CHECK = new Check();
    private static final Refused REFUSED = new Refused(CHECK);

    public static void main(String[] args) {
        ordinary();
        whicheverVariables();
        productIsOne();
        oneIfThereAreNone();
        theLastPlaces();
        noSuchForm();
        everyPlaceUpToThousand();
        noSuchPlace();
        CHECK.end();
    }

    private static void ordinary() {
        due(new int[4][4], 0, 1);
        due(new int[4][4], 2, 1);
        due(Make.diagonal(-3), 0, 1);
        due(Make.diagonal(-3), 3, 1);
        due(Make.diagonal(-1, -1), 0, -1);
        due(Make.diagonal(-1, -1, -1), 0, -1);
        due(Make.diagonal(-1, -1, -1, -1), 0, 1);
        due(Make.diagonal(1, 1, -3), 3, 1);
        due(Make.diagonal(2, 5), 2, -1);
        due(Make.diagonal(2, 5), 5, -1);
        due(Make.diagonal(2, 5), 3, 1);
        due(Make.diagonal(3, 3), 3, -1);
        due(Make.diagonal(3, 3, 3), 3, -1);
        due(Make.diagonal(3, 3, 3, 3), 3, 1);
        due(Make.diagonal(3, 3), 997, 1);
        // Terms that are 0 count for nothing.
        due(Make.diagonal(0, 3, 0, 3), 3, -1);
        // 2 and 22 / 2 = 11, so that the symbol of 2 and 11 counts.
        due(new int[][] {{2, 1}, {1, 6}}, 11, -1);
        due(new int[][] {{2, 1}, {1, 6}}, 2, -1);
    }

    private static void whicheverVariables() {
        int[][] one = {{2, 1, 0}, {1, 3, -1}, {0, -1, -5}};
        int[][] turned = {{-5, -1, 0}, {-1, 3, 1}, {0, 1, 2}};
        for (int place : new int[] {0, 2, 3, 5, 7, 11, 13, 17, 19, 23, 29, 31, 37}) {
            due(turned, place, Make.form(one).hasse(0, place));
        }
        // x(1) + x(0) in place of x(0) leaves the form the same, whatever stands on its diagonal.
        int[][] flat = {{0, 1, 2}, {1, 0, 3}, {2, 3, 0}};
        int[][] sum = {{2, 1, 5}, {1, 0, 3}, {5, 3, 0}};
        for (int place : new int[] {0, 2, 3, 5, 7}) {
            due(sum, place, Make.form(flat).hasse(0, place));
        }
    }

    /** For a determinant with no prime above 1000 all places can be asked for. */
    private static void productIsOne() {
        Make make = new Make(606);
        for (int count = 0; count < 60; count++) {
            int[][] m = make.matrix(1 + count % 3, 6);
            RationalForms x = Make.form(m);
            int all = x.hasse(0, 0);
            for (int p = 2; p < 1000; p++) {
                if (prime(p)) {
                    all *= x.hasse(0, p);
                }
            }
            CHECK.due("product of all signs of " + Make.text(m), all, 1);
        }
    }

    private static boolean prime(int n) {
        for (int d = 2; d * d <= n; d++) {
            if (n % d == 0) {
                return false;
            }
        }
        return true;
    }

    /** Ranks 0 and 1 have no two terms, so that the sign is 1 at every place. */
    private static void oneIfThereAreNone() {
        for (int place : new int[] {0, 2, 3, 5, 7, 997}) {
            for (int n = 1; n <= 4; n++) {
                due(new int[n][n], place, 1);
                for (int v = -6; v <= 6; v++) {
                    int[] a = new int[n];
                    a[n - 1] = v;
                    due(Make.diagonal(a), place, 1);
                }
            }
        }
    }

    private static void theLastPlaces() {
        // The determinant is 997 times a square, and the sign there is the only one of -1.
        int[][] high = {{0, 0, 3, 5}, {0, -2, 5, -2}, {3, 5, 0, 0}, {5, -2, 0, 2}};
        due(high, 997, -1);
        due(high, 991, 1);
        due(high, 2, 1);
        due(high, 0, Book.of(high).hasse(0));
        due(new int[][] {{-2, -2, -5, -6}, {-2, 4, -5, 3}, {-5, -5, -1, 3}, {-6, 3, 3, 2}}, 997, -1);
        due(new int[][] {{5, 5, -1, 4}, {5, -6, 5, 6}, {-1, 5, 5, -6}, {4, 6, -6, -4}}, 991, -1);
    }

    private static void noSuchForm() {
        for (int f : Refused.NO_FORMS) {
            for (int place : new int[] {0, 2, 997, 4}) {
                REFUSED.argument("hasse(" + f + ", " + place + ")", x -> x.hasse(f, place));
            }
        }
    }

    private static void everyPlaceUpToThousand() {
        for (int place = -1100; place <= 1100; place++) {
            RationalForms x = Make.form(1, 2);
            int asked = place;
            CHECK.due("hasse(0, " + place + ") throws", Answers.thrownBy(() -> x.hasse(0, asked)),
                    Make.isPlace(place) ? "nothing" : IllegalArgumentException.class);
        }
    }

    /** Of a form of rank 0 or below its dimension, too. */
    private static void noSuchPlace() {
        for (int place : Make.NO_PLACES) {
            REFUSED.argument("hasse(0, " + place + ")", x -> x.hasse(0, place));
            REFUSED.argument("hasse(1, " + place + ")", x -> x.hasse(1, place));
        }
    }

    private static void due(int[][] m, int place, int want) {
        CHECK.due("hasse of " + Make.text(m) + " at " + place, Make.form(m).hasse(0, place), want);
    }
}
