/** Promise 4: about. */
public final class Promise04AboutTest {
    private static final Check CHECK = new Check();
    private static final Refused REFUSED = new Refused(CHECK);

    public static void main(String[] args) {
        ordinary();
        withoutSquaresOnTheDiagonal();
        withoutFullRank();
        largeDiscriminants();
        askingChangesNothing();
        everyRankOfEveryDimension();
        noneAndAllAboveZero();
        rankZero();
        classes();
        noSuchForm();
        whatIsNoneOfThese();
        CHECK.end();
    }

    private static void ordinary() {
        due(Make.diagonal(-3), 1, 0, 1, -3);
        due(Make.diagonal(4), 1, 1, 0, 1);
        due(Make.diagonal(2, 6), 2, 2, 0, 3);
        due(Make.diagonal(1, 1, -3), 3, 2, 1, -3);
        due(Make.diagonal(-1, -2, -3, -6), 4, 0, 4, 1);
        due(new int[][] {{2, 1}, {1, 2}}, 2, 2, 0, 3);
        due(new int[][] {{1, 3}, {3, 1}}, 2, 1, 1, -2);
    }

    private static void withoutSquaresOnTheDiagonal() {
        due(new int[][] {{0, 1}, {1, 0}}, 2, 1, 1, -1);
        due(new int[][] {{0, -5}, {-5, 0}}, 2, 1, 1, -1);
        due(new int[][] {{0, 1, 1}, {1, 0, 1}, {1, 1, 0}}, 3, 1, 2, 2);
        due(new int[][] {{0, 0, 0, 3}, {0, 0, 2, 0}, {0, 2, 0, 0}, {3, 0, 0, 0}}, 4, 2, 2, 1);
        due(new int[][] {{0, 1, 0, 0}, {1, 0, 0, 0}, {0, 0, 0, 1}, {0, 0, 1, 5}}, 4, 2, 2, 1);
        // The square comes first, and none is left behind it.
        due(new int[][] {{1, 0, 0}, {0, 0, 6}, {0, 6, 0}}, 3, 2, 1, -1);
        due(new int[][] {{1, 1, 1}, {1, 1, 2}, {1, 2, 1}}, 3, 2, 1, -1);
    }

    private static void withoutFullRank() {
        due(new int[][] {{0}}, 0, 0, 0, 1);
        due(new int[4][4], 0, 0, 0, 1);
        due(new int[][] {{2, 2}, {2, 2}}, 1, 1, 0, 2);
        due(new int[][] {{0, 0, 0}, {0, 0, 0}, {0, 0, -5}}, 1, 0, 1, -5);
        due(new int[][] {{0, 1, 0}, {1, 0, 1}, {0, 1, 0}}, 2, 1, 1, -1);
        due(new int[][] {{1, 1, 1, 1}, {1, 1, 1, 1}, {1, 1, 1, 1}, {1, 1, 1, 1}}, 1, 1, 0, 1);
        due(new int[][] {{0, 0, 2, 0}, {0, 0, 0, 0}, {2, 0, 0, 0}, {0, 0, 0, 3}}, 3, 2, 1, -3);
    }

    private static void largeDiscriminants() {
        // 20736 = 144 * 144 is the largest determinant that there is.
        due(new int[][] {{6, 6, 6, 6}, {6, -6, 6, -6}, {6, 6, -6, -6}, {6, -6, -6, 6}}, 4, 2, 2, 1);
        due(new int[][] {{6, -6, 5, 6}, {-6, -6, 4, -5}, {5, 4, 6, -6}, {6, -5, -6, -6}}, 4, 2, 2, 14929);
        due(new int[][] {{-3, -6, -6, -5}, {-6, -5, 6, 6}, {-6, 6, 5, -6}, {-5, 6, -6, -1}}, 4, 2, 2, 10990);
    }

    private static void askingChangesNothing() {
        RationalForms x = Make.form(2, 3);
        x.takes(0, 7);
        x.obstacle(0);
        CHECK.due("rank after takes", x.about(0, 1), 2);
        CHECK.due("discriminant after takes", x.about(0, 4), 6);
        CHECK.due("dimension after takes", x.about(0, 0), 2);
    }

    private static void everyRankOfEveryDimension() {
        for (int n = 1; n <= 4; n++) {
            for (int rank = 0; rank <= n; rank++) {
                int[] a = new int[n];
                for (int k = 0; k < rank; k++) {
                    a[n - 1 - k] = 1;
                }
                due(Make.diagonal(a), rank, rank, 0, 1);
            }
        }
    }

    private static void noneAndAllAboveZero() {
        for (int positive = 0; positive <= 4; positive++) {
            int[] a = {-1, -1, -1, -1};
            for (int k = 0; k < positive; k++) {
                a[k] = 1;
            }
            due(Make.diagonal(a), 4, positive, 4 - positive, positive % 2 == 0 ? 1 : -1);
        }
    }

    /** The discriminant is 1 for rank 0. */
    private static void rankZero() {
        for (int n = 1; n <= 4; n++) {
            due(new int[n][n], 0, 0, 0, 1);
        }
        RationalForms x = Make.form(6);
        x.put(0, 0, 0, 0);
        CHECK.due("discriminant, the last number taken out", x.about(0, 4), 1);
    }

    /** A class has no square factor above 1, and the sign of its number. */
    private static void classes() {
        int[] classes = {-6, -5, -1, -3, -2, -1, 1, 2, 3, 1, 5, 6};
        int at = 0;
        for (int v = -6; v <= 6; v++) {
            if (v != 0) {
                due(Make.diagonal(v), 1, v > 0 ? 1 : 0, v > 0 ? 0 : 1, classes[at]);
                at++;
            }
        }
        due(Make.diagonal(6, 6), 2, 2, 0, 1);
        due(Make.diagonal(6, -6), 2, 1, 1, -1);
        due(Make.diagonal(2, 4), 2, 2, 0, 2);
        due(Make.diagonal(3, 6, 6), 3, 3, 0, 3);
        due(Make.diagonal(6, 6, 6, 6), 4, 4, 0, 1);
        due(Make.diagonal(2, 6, 6, -5), 4, 3, 1, -10);
        // The determinants are -1 times 5 squared, -1 times 7 squared and -5 times 3 squared.
        due(new int[][] {{0, 5}, {5, 3}}, 2, 1, 1, -1);
        due(new int[][] {{4, 5}, {5, -6}}, 2, 1, 1, -1);
        due(new int[][] {{4, 5}, {5, -5}}, 2, 1, 1, -5);
    }

    private static void noSuchForm() {
        for (int f : Refused.NO_FORMS) {
            for (int asked = 0; asked <= 4; asked++) {
                int what = asked;
                REFUSED.argument("about(" + f + ", " + what + ")", x -> x.about(f, what));
            }
            REFUSED.argument("about(" + f + ", 5)", x -> x.about(f, 5));
        }
    }

    private static void whatIsNoneOfThese() {
        for (int what : new int[] {-1, 5, 6, Refused.MIN, Refused.MAX}) {
            REFUSED.argument("about(0, " + what + ")", x -> x.about(0, what));
            REFUSED.argument("about(1, " + what + ")", x -> x.about(1, what));
        }
    }

    private static void due(int[][] m, int rank, int positive, int negative, int discriminant) {
        String name = Make.text(m);
        RationalForms x = new RationalForms();
        for (int f = 0; f < 2; f++) {
            Make.set(x, f, m);
            CHECK.due(name + " dimension", x.about(f, 0), m.length);
            CHECK.due(name + " rank", x.about(f, 1), rank);
            CHECK.due(name + " positive", x.about(f, 2), positive);
            CHECK.due(name + " negative", x.about(f, 3), negative);
            CHECK.due(name + " discriminant", x.about(f, 4), discriminant);
        }
    }
}
