/** Promise 12: sign. */
public final class Promise12SignTest {
    private static final Check CHECK = new Check();

    public static void main(String[] args) {
        ordinary();
        primesAboveAllPlaces();
        asHasse();
        wrongInputs();
        CHECK.end();
    }

    private static void ordinary() {
        due(new int[][] {{0}});
        due(new int[4][4]);
        due(Make.diagonal(-6));
        due(Make.diagonal(1, 1, 1, 1));
        due(Make.diagonal(-1, -1), 2);
        due(Make.diagonal(3, 3), 2, 3);
        due(Make.diagonal(0, 3, 0, 3), 2, 3);
        due(Make.diagonal(2, 5), 2, 5);
        due(Make.diagonal(2, 3), 2, 3);
        due(Make.diagonal(3, 5), 3, 5);
        due(Make.diagonal(5, 3), 3, 5);
        due(new int[][] {{2, 1}, {1, 6}}, 2, 11);
        due(new int[][] {{0, 1, 1}, {1, 0, 1}, {1, 1, 0}}, 2);
    }

    /** The program tells of these primes, too, though no place up to 1000 can be asked for. */
    private static void primesAboveAllPlaces() {
        due(new int[][] {{0, 3, -4, -6}, {3, -1, 5, -5}, {-4, 5, 1, -2}, {-6, -5, -2, -3}}, 3067);
        due(new int[][] {{6, -5, 6, 6}, {-5, -6, -5, 3}, {6, -5, -3, -5}, {6, 3, -5, 6}}, 10837);
    }

    private static void asHasse() {
        Make make = new Make(1212);
        for (int count = 0; count < 60; count++) {
            int[][] m = make.matrix(1 + count % 3, 6);
            RationalForms x = Make.form(m);
            int met = 0;
            for (int p : Book.PRIMES) {
                if (p < 1000 && x.hasse(0, p) == -1) {
                    CHECK.due("sign " + met + " of " + Make.text(m), x.sign(0, met), p);
                    met++;
                }
            }
            int behind = met;
            CHECK.badIndex("sign " + met + " of " + Make.text(m), () -> x.sign(0, behind));
        }
    }

    private static void wrongInputs() {
        RationalForms x = Make.form(3, 3);
        for (int f : new int[] {-1, 2, Integer.MIN_VALUE, Integer.MAX_VALUE}) {
            CHECK.badArgument("sign(" + f + ", 0)", () -> x.sign(f, 0));
            CHECK.badArgument("sign(" + f + ", -1)", () -> x.sign(f, -1));
        }
        for (int k : new int[] {-1, 2, 3, Integer.MIN_VALUE, Integer.MAX_VALUE}) {
            CHECK.badIndex("sign(0, " + k + ")", () -> x.sign(0, k));
        }
        CHECK.badIndex("sign(1, 0)", () -> x.sign(1, 0));
    }

    private static void due(int[][] m, int... primes) {
        RationalForms x = new RationalForms();
        for (int f = 0; f < 2; f++) {
            final int form = f;
            Make.set(x, f, m);
            for (int k = 0; k < primes.length; k++) {
                CHECK.due("sign " + k + " of " + Make.text(m), x.sign(f, k), primes[k]);
            }
            CHECK.badIndex("the sign behind those of " + Make.text(m), () -> x.sign(form, primes.length));
        }
    }
}
