/** Promise 9: takes. */
public final class Promise09TakesTest {
    private static final Check CHECK = new Check();

    public static void main(String[] args) {
        rankZero();
        rankOne();
        sumsOfTwoSquares();
        sumsOfThreeSquares();
        rankFour();
        variablesWithoutTerm();
        theEdges();
        wrongInputs();
        CHECK.end();
    }

    private static void rankZero() {
        due(new int[][] {{0}}, 1, false);
        due(new int[4][4], -7, false);
    }

    private static void rankOne() {
        due(Make.diagonal(-3), -12, true);
        due(Make.diagonal(-3), 12, false);
        due(Make.diagonal(-3), -3, true);
        due(Make.diagonal(2), 1, false);
        due(Make.diagonal(2), 18, true);
        due(Make.diagonal(6), 6, true);
        due(Make.diagonal(5), -5, false);
        due(Make.diagonal(1), 961, true);
    }

    /** A number is a sum of two squares if the primes that leave 3 at 4 have even powers in it. */
    private static void sumsOfTwoSquares() {
        RationalForms x = new RationalForms();
        for (int v = 1; v <= 1000; v++) {
            if (v % 500 == 1) {
                x = Make.form(1, 1);
            }
            CHECK.due("1, 1 takes " + v, x.takes(0, v), sumOfTwoSquares(v));
        }
        due(Make.diagonal(1, 1), -1, false);
        due(Make.diagonal(1, -1), 997, true);
        due(new int[][] {{0, 1}, {1, 0}}, -5, true);
        due(Make.diagonal(1, -2), 7, true);
        due(Make.diagonal(1, -2), 3, false);
        due(Make.diagonal(1, -2), -1, true);
    }

    private static boolean sumOfTwoSquares(int v) {
        for (int a = 0; a * a <= v; a++) {
            for (int b = a; a * a + b * b <= v; b++) {
                if (a * a + b * b == v) {
                    return true;
                }
            }
        }
        return false;
    }

    /** A number is a sum of three squares if it is not 4^a times one that leaves 7 at 8. */
    private static void sumsOfThreeSquares() {
        RationalForms x = new RationalForms();
        for (int v = 1; v <= 1000; v++) {
            if (v % 500 == 1) {
                x = Make.form(1, 1, 1);
            }
            int odd = v;
            while (odd % 4 == 0) {
                odd /= 4;
            }
            CHECK.due("1, 1, 1 takes " + v, x.takes(0, v), odd % 8 != 7);
        }
        due(Make.diagonal(1, 1, 1), -1, false);
        due(Make.diagonal(1, 1, -2), -7, true);
        // Without a zero at 2 and 3, a number is left out there: 3 times a square.
        due(Make.diagonal(1, 1, -3), 3, false);
        due(Make.diagonal(1, 1, -3), 1, true);
        due(Make.diagonal(1, 1, -3), -1, true);
    }

    /** Each prime is open for rank 4; only the sign can be wrong. */
    private static void rankFour() {
        RationalForms sum = Make.form(1, 1, 1, 1);
        RationalForms minus = Make.form(-2, -3, -5, -6);
        RationalForms both = Make.form(1, -2, 3, -6);
        for (int v : new int[] {1, 7, 15, 28, 60, 112, 999, 1000}) {
            CHECK.due("sum takes " + v, sum.takes(0, v), true);
            CHECK.due("sum takes " + -v, sum.takes(0, -v), false);
            CHECK.due("minus takes " + v, minus.takes(0, v), false);
            CHECK.due("minus takes " + -v, minus.takes(0, -v), true);
            CHECK.due("both takes " + v, both.takes(0, v), true);
            CHECK.due("both takes " + -v, both.takes(0, -v), true);
        }
    }

    /** Such a form is isotropic, but takes no more than its terms do. */
    private static void variablesWithoutTerm() {
        due(Make.diagonal(1, 0), 2, false);
        due(Make.diagonal(1, 0), 4, true);
        due(Make.diagonal(0, 1, 1, 0), 3, false);
        due(Make.diagonal(0, 1, 1, 0), 5, true);
        due(new int[][] {{1, 1}, {1, 1}}, 3, false);
        due(Make.diagonal(1, 1, 1, 0), 7, false);
    }

    private static void theEdges() {
        RationalForms x = Make.form(1, 1, 1, -1);
        CHECK.due("takes 1000", x.takes(0, 1000), true);
        CHECK.due("takes -1000", x.takes(0, -1000), true);
        CHECK.due("takes the same again", x.takes(0, 1000), true);
        CHECK.due("its rank is as before", x.about(0, 1), 4);
        Make.set(x, 1, Make.diagonal(-1));
        CHECK.due("form 1 takes -1", x.takes(1, -1), true);
        CHECK.due("form 1 takes 1", x.takes(1, 1), false);
    }

    private static void wrongInputs() {
        RationalForms x = Make.form(1, 1);
        for (int f : new int[] {-1, 2, Integer.MIN_VALUE, Integer.MAX_VALUE}) {
            CHECK.badArgument("takes(" + f + ", 1)", () -> x.takes(f, 1));
            CHECK.badArgument("takes(" + f + ", 0)", () -> x.takes(f, 0));
        }
        for (int v : new int[] {-1001, 1001, Integer.MIN_VALUE, Integer.MAX_VALUE}) {
            CHECK.badArgument("takes(0, " + v + ")", () -> x.takes(0, v));
            CHECK.badArgument("takes(1, " + v + ") of rank 0", () -> x.takes(1, v));
        }
        CHECK.badArithmetic("takes(0, 0)", () -> x.takes(0, 0));
        CHECK.badArithmetic("takes(1, 0) of rank 0", () -> x.takes(1, 0));
    }

    private static void due(int[][] m, int v, boolean want) {
        CHECK.due(Make.text(m) + " takes " + v, Make.form(m).takes(0, v), want);
    }
}
