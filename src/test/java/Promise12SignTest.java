/** Promise 12: sign. */
public final class Promise12SignTest {
    private static final Check CHECK = new Check();
    private static final Refused REFUSED = new Refused(CHECK);

    public static void main(String[] args) {
        ordinary();
        primesAboveAllPlaces();
        asHasse();
        noneAtAll();
        theLastOne();
        noSuchForm();
        notSoMany();
        whichComesFirst();
        CHECK.end();
    }

    private static void ordinary() {
        due(new int[][] {{0}});
        due(new int[4][4]);
        due(Make.diagonal(-6));
        due(Make.diagonal(1, 1, 1, 1));
        due(Make.diagonal(-1, -1), 2);
        due(Make.diagonal(3, 3), 2, 3);
        due(Make.diagonal(0, 3, 0, 3), 2, 3);
        due(Make.diagonal(2, 5), 2, 5);
        due(Make.diagonal(2, 3), 2, 3);
        due(Make.diagonal(3, 5), 3, 5);
        due(Make.diagonal(5, 3), 3, 5);
        due(Make.diagonal(5, 6), 2, 3);
        due(new int[][] {{2, 1}, {1, 6}}, 2, 11);
        due(new int[][] {{0, 1, 1}, {1, 0, 1}, {1, 1, 0}}, 2);
    }

    /** The program tells of these primes, too, though no place up to 1000 can be asked for. */
    private static void primesAboveAllPlaces() {
        due(new int[][] {{0, 3, -4, -6}, {3, -1, 5, -5}, {-4, 5, 1, -2}, {-6, -5, -2, -3}}, 3067);
        due(new int[][] {{6, -5, 6, 6}, {-5, -6, -5, 3}, {6, -5, -3, -5}, {6, 3, -5, 6}}, 10837);
    }

    private static void asHasse() {
        Make make = new Make(1212);
        for (int count = 0; count < 60; count++) {
            int[][] m = make.matrix(1 + count % 3, 6);
            RationalForms x = Make.form(m);
            int met = 0;
            for (int p : Book.PRIMES) {
                if (p < 1000 && x.hasse(0, p) == -1) {
                    CHECK.due("sign " + met + " of " + Make.text(m), x.sign(0, met), p);
                    met++;
                }
            }
            int behind = met;
            CHECK.due("sign " + met + " of " + Make.text(m) + " throws",
                    Answers.thrownBy(() -> x.sign(0, behind)), IndexOutOfBoundsException.class);
        }
    }

    /** Ranks 0 and 1 have no sign of -1, nor have forms whose signs are all 1. */
    private static void noneAtAll() {
        for (int n = 1; n <= 4; n++) {
            due(new int[n][n]);
            for (int v = -6; v <= 6; v++) {
                int[] a = new int[n];
                a[0] = v;
                due(Make.diagonal(a));
            }
        }
        due(Make.diagonal(1, -1));
        due(Make.diagonal(1, 1, 5, 5));
    }

    /** Just as many as there are can be asked for: none, one, two, and as many as five. */
    private static void theLastOne() {
        due(Make.diagonal(1, 6));
        due(Make.diagonal(-1, -1, -1), 2);
        due(Make.diagonal(-1, -3), 3);
        due(Make.diagonal(3, 3), 2, 3);
        due(new int[][] {{0, 0, -3, -4}, {0, 2, -6, 3}, {-3, -6, -6, 2}, {-4, 3, 2, -1}}, 2, 5, 31);
        due(new int[][] {{-3, 6, 0, 0}, {6, 0, 5, -5}, {0, 5, 2, 5}, {0, -5, 5, -5}}, 2, 3, 5, 7, 17);
        due(new int[][] {{0, 0, 3, 5}, {0, -2, 5, -2}, {3, 5, 0, 0}, {5, -2, 0, 2}}, 997);
        due(new int[][] {{3, -5, 1, 2}, {-5, -6, -3, 2}, {1, -3, 4, -4}, {2, 2, -4, -6}}, 1009);
    }

    private static void noSuchForm() {
        for (int f : Refused.NO_FORMS) {
            REFUSED.argument("sign(" + f + ", 0)", x -> x.sign(f, 0));
        }
    }

    private static void notSoMany() {
        Refused twoAndNone = REFUSED.with(Make.diagonal(3, 3), Make.diagonal(1, 1));
        for (int k : new int[] {2, 3, Refused.MAX, -1, Refused.MIN}) {
            twoAndNone.index("sign(0, " + k + ")", x -> x.sign(0, k));
        }
        for (int k : new int[] {0, 1, Refused.MAX, -1, Refused.MIN}) {
            twoAndNone.index("sign(1, " + k + ")", x -> x.sign(1, k));
        }
    }

    private static void whichComesFirst() {
        for (int f : Refused.NO_FORMS) {
            REFUSED.argument("sign(" + f + ", -1)", x -> x.sign(f, -1));
            REFUSED.argument("sign(" + f + ", 999)", x -> x.sign(f, 999));
        }
    }

    private static void due(int[][] m, int... primes) {
        RationalForms x = new RationalForms();
        for (int f = 0; f < 2; f++) {
            final int form = f;
            Make.set(x, f, m);
            for (int k = 0; k < primes.length; k++) {
                CHECK.due("sign " + k + " of " + Make.text(m), x.sign(f, k), primes[k]);
            }
            for (int k : new int[] {primes.length, -1}) {
                CHECK.due("sign " + k + " of " + Make.text(m) + " throws",
                        Answers.thrownBy(() -> x.sign(form, k)), IndexOutOfBoundsException.class);
            }
        }
    }
}
