/** Promise 9: takes. */
public final class Promise09TakesTest {
    private static final Check CHECK = new Check();
    private static final Refused REFUSED = new Refused(CHECK);

    public static void main(String[] args) {
        rankZero();
        rankOne();
        sumsOfTwoSquares();
        sumsOfThreeSquares();
        rankFour();
        variablesWithoutTerm();
        theEdges();
        noSuchForm();
        numberTooSmall();
        numberTooLarge();
        numberIsZero();
        whichComesFirst();
        CHECK.end();
    }

    /** With no term left, - v * z * z alone would have no zero; nothing is taken. */
    private static void rankZero() {
        for (int n = 1; n <= 4; n++) {
            for (int v : new int[] {-1000, -7, -1, 1, 4, 1000}) {
                due(new int[n][n], v, false);
            }
        }
    }

    private static void rankOne() {
        due(Make.diagonal(-3), -12, true);
        due(Make.diagonal(-3), 12, false);
        due(Make.diagonal(-3), -3, true);
        due(Make.diagonal(2), 1, false);
        due(Make.diagonal(2), 18, true);
        due(Make.diagonal(6), 6, true);
        due(Make.diagonal(5), -5, false);
        due(Make.diagonal(1), 961, true);
    }

    /** A number is a sum of two squares if the primes that leave 3 at 4 have even powers in it. */
    private static void sumsOfTwoSquares() {
        RationalForms x = new RationalForms();
        for (int v = 1; v <= 1000; v++) {
            if (v % 500 == 1) {
                x = Make.form(1, 1);
            }
            CHECK.due("1, 1 takes " + v, x.takes(0, v), sumOfTwoSquares(v));
        }
        due(Make.diagonal(1, 1), -1, false);
        due(Make.diagonal(1, -1), 997, true);
        due(new int[][] {{0, 1}, {1, 0}}, -5, true);
        due(Make.diagonal(1, -2), 7, true);
        due(Make.diagonal(1, -2), 3, false);
        due(Make.diagonal(1, -2), -1, true);
    }

    private static boolean sumOfTwoSquares(int v) {
        for (int a = 0; a * a <= v; a++) {
            for (int b = a; a * a + b * b <= v; b++) {
                if (a * a + b * b == v) {
                    return true;
                }
            }
        }
        return false;
    }

    /** A number is a sum of three squares if it is not 4^a times one that leaves 7 at 8. */
    private static void sumsOfThreeSquares() {
        RationalForms x = new RationalForms();
        for (int v = 1; v <= 1000; v++) {
            if (v % 500 == 1) {
                x = Make.form(1, 1, 1);
            }
            int odd = v;
            while (odd % 4 == 0) {
                odd /= 4;
            }
            CHECK.due("1, 1, 1 takes " + v, x.takes(0, v), odd % 8 != 7);
        }
        due(Make.diagonal(1, 1, 1), -1, false);
        due(Make.diagonal(1, 1, -2), -7, true);
        // Without a zero at 2 and 3, a number is left out there: 3 times a square.
        due(Make.diagonal(1, 1, -3), 3, false);
        due(Make.diagonal(1, 1, -3), 1, true);
        due(Make.diagonal(1, 1, -3), -1, true);
    }

    /** Rank 5 is isotropic at every prime, and at 0 if both signs are there: so rank 4 takes by sign. */
    private static void rankFour() {
        int[][] terms = {{1, 1, 1, 1}, {2, 3, 5, 6}, {1, 2, 3, 6}, {1, 1, 3, 3}, {5, 5, 5, 5}};
        for (int[] a : terms) {
            for (int signs = 0; signs < 16; signs++) {
                int[] turned = new int[4];
                for (int k = 0; k < 4; k++) {
                    turned[k] = (signs >> k) % 2 == 0 ? a[k] : -a[k];
                }
                RationalForms x = Make.form(turned);
                for (int v : new int[] {1, 7, 15, 28, 60, 112, 999, 1000}) {
                    CHECK.due(Make.text(Make.diagonal(turned)) + " takes " + v, x.takes(0, v), signs != 15);
                    CHECK.due(Make.text(Make.diagonal(turned)) + " takes " + -v, x.takes(0, -v), signs != 0);
                }
            }
        }
    }

    /** Such a form is isotropic, but takes no more than its terms do. */
    private static void variablesWithoutTerm() {
        due(Make.diagonal(1, 0), 2, false);
        due(Make.diagonal(1, 0), 4, true);
        due(Make.diagonal(0, 1, 1, 0), 3, false);
        due(Make.diagonal(0, 1, 1, 0), 5, true);
        due(new int[][] {{1, 1}, {1, 1}}, 3, false);
        due(Make.diagonal(1, 1, 1, 0), 7, false);
    }

    private static void theEdges() {
        RationalForms x = Make.form(1, 1, 1, -1);
        CHECK.due("takes 1000", x.takes(0, 1000), true);
        CHECK.due("takes -1000", x.takes(0, -1000), true);
        // 1000 and -1000 are 10 and -10 times a square, 999 is 111 times one.
        due(new int[][] {{1, 0}, {0, 1}}, 1000, true);
        due(new int[][] {{1, 0}, {0, 1}}, 999, false);
        due(new int[][] {{-1, 0}, {0, -1}}, -1000, true);
        due(new int[][] {{-1, 0}, {0, -1}}, -999, false);
        due(Make.diagonal(5), 1000, false);
        due(Make.diagonal(5), 980, true);
        due(Make.diagonal(-5), -980, true);
        due(Make.diagonal(1), 1, true);
        due(Make.diagonal(-1), -1, true);
        CHECK.due("takes the same again", x.takes(0, 1000), true);
        CHECK.due("its rank is as before", x.about(0, 1), 4);
        Make.set(x, 1, Make.diagonal(-1));
        CHECK.due("form 1 takes -1", x.takes(1, -1), true);
        CHECK.due("form 1 takes 1", x.takes(1, 1), false);
    }

    private static void noSuchForm() {
        for (int f : Refused.NO_FORMS) {
            for (int v : new int[] {1, -1, 1000, -1000}) {
                REFUSED.argument("takes(" + f + ", " + v + ")", x -> x.takes(f, v));
            }
        }
    }

    /** Of a form of rank 0, too. */
    private static void numberTooSmall() {
        for (int v : new int[] {-1001, -1002, Refused.MIN}) {
            REFUSED.argument("takes(0, " + v + ")", x -> x.takes(0, v));
            REFUSED.argument("takes(1, " + v + ")", x -> x.takes(1, v));
        }
    }

    private static void numberTooLarge() {
        for (int v : new int[] {1001, 1002, Refused.MAX}) {
            REFUSED.argument("takes(0, " + v + ")", x -> x.takes(0, v));
            REFUSED.argument("takes(1, " + v + ")", x -> x.takes(1, v));
        }
    }

    private static void numberIsZero() {
        REFUSED.arithmetic("takes(0, 0)", x -> x.takes(0, 0));
        REFUSED.arithmetic("takes(1, 0)", x -> x.takes(1, 0));
        for (int v : new int[] {-1, 1}) {
            CHECK.due("takes " + v + " throws", Answers.thrownBy(() -> Make.form(1).takes(0, v)), "nothing");
        }
    }

    private static void whichComesFirst() {
        for (int f : Refused.NO_FORMS) {
            REFUSED.argument("takes(" + f + ", 0)", x -> x.takes(f, 0));
            REFUSED.argument("takes(" + f + ", 1001)", x -> x.takes(f, 1001));
        }
    }

    private static void due(int[][] m, int v, boolean want) {
        CHECK.due(Make.text(m) + " takes " + v, Make.form(m).takes(0, v), want);
    }
}
