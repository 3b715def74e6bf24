/** Promise 10: equivalent. */
public final class Promise10EquivalentTest {
    private static final Check CHECK = new Check();

    public static void main(String[] args) {
        equivalentOnes();
        onlyOneThingDiffers();
        equivalentFormsTakeTheSame();
        CHECK.end();
    }

    private static void equivalentOnes() {
        due(new int[][] {{0}}, new int[][] {{0}}, true);
        due(new int[4][4], new int[4][4], true);
        due(Make.diagonal(1), Make.diagonal(4), true);
        due(Make.diagonal(1, 2), Make.diagonal(2, 1), true);
        due(Make.diagonal(1, 1), Make.diagonal(2, 2), true);
        due(Make.diagonal(1, 1), Make.diagonal(5, 5), true);
        due(Make.diagonal(1, 2), Make.diagonal(3, 6), true);
        due(Make.diagonal(1, -1), new int[][] {{0, 1}, {1, 0}}, true);
        due(Make.diagonal(3, -3), new int[][] {{0, 1}, {1, 5}}, true);
        due(Make.diagonal(1, 1, 1, 1), Make.diagonal(3, 3, 3, 3), true);
        due(Make.diagonal(1, 0), new int[][] {{1, 1}, {1, 1}}, true);
        due(Make.diagonal(2, 0, 0), Make.diagonal(0, 0, 2), true);
    }

    private static void onlyOneThingDiffers() {
        // Dimension.
        due(Make.diagonal(1), Make.diagonal(1, 0), false);
        due(new int[][] {{0}}, new int[2][2], false);
        // Rank.
        due(Make.diagonal(1, 0), Make.diagonal(1, 1), false);
        due(Make.diagonal(1, -1, 0, 0), Make.diagonal(1, -1, 1, -1), false);
        due(new int[4][4], Make.diagonal(-1, -1, -1, -1), false);
        // Positive; rank, discriminant and the real sign are alike.
        due(Make.diagonal(1, 1, 1, 1), Make.diagonal(-1, -1, -1, -1), false);
        // Discriminant.
        due(Make.diagonal(1), Make.diagonal(2), false);
        due(Make.diagonal(1, 1), Make.diagonal(1, 2), false);
        due(Make.diagonal(1, -1), Make.diagonal(1, -2), false);
        // Signs at 2 and 3, at 2 and 5, at 3 and 5.
        due(Make.diagonal(1, 1), Make.diagonal(3, 3), false);
        due(Make.diagonal(1, -6), Make.diagonal(2, -3), false);
        due(Make.diagonal(1, 5), new int[][] {{2, 1}, {1, 3}}, false);
        due(new int[][] {{4, 1}, {1, 4}}, Make.diagonal(3, 5), false);
        due(Make.diagonal(1, 1, 1), Make.diagonal(1, 3, 3), false);
        due(Make.diagonal(1, 1, 1, 1), Make.diagonal(1, 1, 3, 3), false);
        // Terms 1, 5, 55 and 1, 2, 22: signs at 2 and 11.
        due(new int[][] {{1, 1, 0}, {1, 6, 3}, {0, 3, 4}}, new int[][] {{1, 0, 0}, {0, 2, 1}, {0, 1, 6}}, false);
        // Signs at 3 and 5, which divide no term of the other form.
        due(Make.diagonal(1, 1, -1), new int[][] {{-3, 6, 0}, {6, 3, 0}, {0, 0, 5}}, false);
    }

    private static void equivalentFormsTakeTheSame() {
        Make make = new Make(1010);
        int alike = 0;
        for (int count = 0; count < 20000; count++) {
            int n = 1 + count % 3;
            int[][] a = make.matrix(n, 3);
            int[][] b = make.matrix(n, 3);
            RationalForms x = Make.form(a);
            Make.set(x, 1, b);
            if (x.equivalent()) {
                alike++;
                for (int v = -40; v <= 40; v++) {
                    if (v != 0 && x.takes(0, v) != x.takes(1, v)) {
                        CHECK.due(Make.text(a) + " and " + Make.text(b) + " take " + v, false, true);
                    }
                }
            }
        }
        CHECK.due("enough equivalent forms were met", alike > 500, true);
    }

    private static void due(int[][] a, int[][] b, boolean want) {
        RationalForms x = Make.form(a);
        Make.set(x, 1, b);
        CHECK.due("equivalent of " + Make.text(a) + " and " + Make.text(b), x.equivalent(), want);
        Make.set(x, 0, b);
        Make.set(x, 1, a);
        CHECK.due("equivalent of " + Make.text(b) + " and " + Make.text(a), x.equivalent(), want);
        Make.set(x, 1, b);
        CHECK.due("equivalent of " + Make.text(b) + " with itself", x.equivalent(), true);
    }
}
