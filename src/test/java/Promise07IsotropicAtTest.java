/** Promise 7: isotropicAt. */
public final class Promise07IsotropicAtTest {
    private static final Check CHECK = new Check();

    public static void main(String[] args) {
        rankBelowDimension();
        rankOne();
        rankTwo();
        rankThree();
        rankFour();
        wrongInputs();
        CHECK.end();
    }

    private static void rankBelowDimension() {
        for (int place : new int[] {0, 2, 3, 997}) {
            due(new int[][] {{0}}, place, true);
            due(Make.diagonal(1, 0), place, true);
            due(Make.diagonal(1, 1, 0), place, true);
            due(Make.diagonal(1, 1, 1, 0), place, true);
            due(new int[][] {{1, 1}, {1, 1}}, place, true);
        }
    }

    private static void rankOne() {
        for (int place : new int[] {0, 2, 3, 997}) {
            due(Make.diagonal(1), place, false);
            due(Make.diagonal(-6), place, false);
        }
    }

    private static void rankTwo() {
        due(Make.diagonal(1, 1), 0, false);
        due(Make.diagonal(1, -2), 0, true);
        due(Make.diagonal(1, 1), 2, false);
        due(Make.diagonal(1, 1), 3, false);
        due(Make.diagonal(1, 1), 5, true);
        due(Make.diagonal(1, 1), 997, true);
        due(Make.diagonal(1, 1), 991, false);
        due(Make.diagonal(1, -4), 2, true);
        due(Make.diagonal(3, -3), 3, true);
        due(Make.diagonal(1, -3), 3, false);
        due(Make.diagonal(1, -2), 7, true);
        // 17 leaves 1 at the division by 8, 5 leaves 5.
        due(new int[][] {{1, 1}, {1, -4}}, 2, false);
        due(new int[][] {{2, 3}, {3, -4}}, 2, true);
        due(new int[][] {{2, 3}, {3, -4}}, 17, false);
    }

    private static void rankThree() {
        due(Make.diagonal(1, 1, 1), 0, false);
        due(Make.diagonal(1, 1, 1), 2, false);
        due(Make.diagonal(1, 1, 1), 3, true);
        due(Make.diagonal(1, 1, -3), 0, true);
        due(Make.diagonal(1, 1, -3), 2, false);
        due(Make.diagonal(1, 1, -3), 3, false);
        due(Make.diagonal(1, 1, -3), 5, true);
        due(Make.diagonal(1, 1, -2), 2, true);
        due(Make.diagonal(-1, -1, -1), 0, false);
        due(Make.diagonal(1, -5, -3), 3, false);
        due(Make.diagonal(1, -5, -3), 5, false);
    }

    private static void rankFour() {
        due(Make.diagonal(1, 1, 1, 1), 0, false);
        due(Make.diagonal(-1, -1, -1, -1), 0, false);
        due(Make.diagonal(1, 1, 1, 1), 2, false);
        due(Make.diagonal(1, 1, 1, 1), 3, true);
        due(Make.diagonal(1, 1, -1, -1), 0, true);
        due(Make.diagonal(1, 1, 1, -1), 0, true);
        due(Make.diagonal(1, 1, 1, -1), 2, true);
        // No zero at 3: 2 is no remainder, so that 1, -2 and 3 * (1, -2) have none there.
        due(Make.diagonal(1, -2, 3, -6), 3, false);
        due(Make.diagonal(1, -2, 3, -6), 2, false);
        due(Make.diagonal(1, -2, 3, -6), 0, true);
        due(Make.diagonal(1, -2, 3, -6), 5, true);
        due(Make.diagonal(1, 1, 3, 3), 3, false);
        due(Make.diagonal(1, 1, 5, 5), 5, true);
        due(Make.diagonal(1, -2, 5, 5), 5, true);
    }

    private static void wrongInputs() {
        RationalForms x = Make.form(1, 2);
        for (int f : new int[] {-1, 2, Integer.MIN_VALUE, Integer.MAX_VALUE}) {
            CHECK.badArgument("isotropicAt(" + f + ", 2)", () -> x.isotropicAt(f, 2));
        }
        for (int place : new int[] {1, 4, 6, 9, 1000, 1009, -1, -2, Integer.MIN_VALUE, Integer.MAX_VALUE}) {
            CHECK.badArgument("isotropicAt(0, " + place + ")", () -> x.isotropicAt(0, place));
            CHECK.badArgument("isotropicAt(1, " + place + ") of rank 0", () -> x.isotropicAt(1, place));
        }
    }

    private static void due(int[][] m, int place, boolean want) {
        CHECK.due("isotropicAt of " + Make.text(m) + " at " + place, Make.form(m).isotropicAt(0, place), want);
    }
}
