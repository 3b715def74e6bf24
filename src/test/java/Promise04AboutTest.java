/** Promise 4: about. */
public final class Promise04AboutTest {
    private static final Check CHECK = new Check();

    public static void main(String[] args) {
        ordinary();
        withoutSquaresOnTheDiagonal();
        withoutFullRank();
        largeDiscriminants();
        askingChangesNothing();
        wrongInputs();
        CHECK.end();
    }

    private static void ordinary() {
        due(Make.diagonal(-3), 1, 0, 1, -3);
        due(Make.diagonal(4), 1, 1, 0, 1);
        due(Make.diagonal(2, 6), 2, 2, 0, 3);
        due(Make.diagonal(1, 1, -3), 3, 2, 1, -3);
        due(Make.diagonal(-1, -2, -3, -6), 4, 0, 4, 1);
        due(new int[][] {{2, 1}, {1, 2}}, 2, 2, 0, 3);
        due(new int[][] {{1, 3}, {3, 1}}, 2, 1, 1, -2);
    }

    private static void withoutSquaresOnTheDiagonal() {
        due(new int[][] {{0, 1}, {1, 0}}, 2, 1, 1, -1);
        due(new int[][] {{0, -5}, {-5, 0}}, 2, 1, 1, -1);
        due(new int[][] {{0, 1, 1}, {1, 0, 1}, {1, 1, 0}}, 3, 1, 2, 2);
        due(new int[][] {{0, 0, 0, 3}, {0, 0, 2, 0}, {0, 2, 0, 0}, {3, 0, 0, 0}}, 4, 2, 2, 1);
        due(new int[][] {{0, 1, 0, 0}, {1, 0, 0, 0}, {0, 0, 0, 1}, {0, 0, 1, 5}}, 4, 2, 2, 1);
        // The square comes first, and none is left behind it.
        due(new int[][] {{1, 0, 0}, {0, 0, 6}, {0, 6, 0}}, 3, 2, 1, -1);
        due(new int[][] {{1, 1, 1}, {1, 1, 2}, {1, 2, 1}}, 3, 2, 1, -1);
    }

    private static void withoutFullRank() {
        due(new int[][] {{0}}, 0, 0, 0, 1);
        due(new int[4][4], 0, 0, 0, 1);
        due(new int[][] {{2, 2}, {2, 2}}, 1, 1, 0, 2);
        due(new int[][] {{0, 0, 0}, {0, 0, 0}, {0, 0, -5}}, 1, 0, 1, -5);
        due(new int[][] {{0, 1, 0}, {1, 0, 1}, {0, 1, 0}}, 2, 1, 1, -1);
        due(new int[][] {{1, 1, 1, 1}, {1, 1, 1, 1}, {1, 1, 1, 1}, {1, 1, 1, 1}}, 1, 1, 0, 1);
        due(new int[][] {{0, 0, 2, 0}, {0, 0, 0, 0}, {2, 0, 0, 0}, {0, 0, 0, 3}}, 3, 2, 1, -3);
    }

    private static void largeDiscriminants() {
        // 20736 = 144 * 144 is the largest determinant that there is.
        due(new int[][] {{6, 6, 6, 6}, {6, -6, 6, -6}, {6, 6, -6, -6}, {6, -6, -6, 6}}, 4, 2, 2, 1);
        due(new int[][] {{6, -6, 5, 6}, {-6, -6, 4, -5}, {5, 4, 6, -6}, {6, -5, -6, -6}}, 4, 2, 2, 14929);
        due(new int[][] {{-3, -6, -6, -5}, {-6, -5, 6, 6}, {-6, 6, 5, -6}, {-5, 6, -6, -1}}, 4, 2, 2, 10990);
    }

    private static void askingChangesNothing() {
        RationalForms x = Make.form(2, 3);
        x.takes(0, 7);
        x.obstacle(0);
        CHECK.due("rank after takes", x.about(0, 1), 2);
        CHECK.due("discriminant after takes", x.about(0, 4), 6);
        CHECK.due("dimension after takes", x.about(0, 0), 2);
    }

    private static void wrongInputs() {
        RationalForms x = new RationalForms();
        for (int f : new int[] {-1, 2, Integer.MIN_VALUE, Integer.MAX_VALUE}) {
            CHECK.badArgument("about(" + f + ", 0)", () -> x.about(f, 0));
        }
        for (int what : new int[] {-1, 5, Integer.MIN_VALUE, Integer.MAX_VALUE}) {
            CHECK.badArgument("about(0, " + what + ")", () -> x.about(0, what));
        }
    }

    private static void due(int[][] m, int rank, int positive, int negative, int discriminant) {
        String name = Make.text(m);
        RationalForms x = new RationalForms();
        for (int f = 0; f < 2; f++) {
            Make.set(x, f, m);
            CHECK.due(name + " dimension", x.about(f, 0), m.length);
            CHECK.due(name + " rank", x.about(f, 1), rank);
            CHECK.due(name + " positive", x.about(f, 2), positive);
            CHECK.due(name + " negative", x.about(f, 3), negative);
            CHECK.due(name + " discriminant", x.about(f, 4), discriminant);
        }
    }
}
