/** Promise 2: begin. */
public final class Promise02BeginTest {
    private static final int[][] FULL = {{1, 2, 3, 4}, {2, 5, 6, -1}, {3, 6, -2, -3}, {4, -1, -3, -4}};
    private static final Check CHECK = new Check();
    private static final Refused REFUSED = new Refused(CHECK);

    public static void main(String[] args) {
        everyDimension();
        justTheVariablesOfTheDimension();
        allNumbersAreZero();
        numbersDoNotComeBack();
        theOtherFormStays();
        noSuchForm();
        dimensionTooSmall();
        dimensionTooLarge();
        CHECK.end();
    }

    private static void everyDimension() {
        RationalForms x = new RationalForms();
        for (int n = 1; n <= 4; n++) {
            x.begin(0, n);
            x.begin(1, 5 - n);
            CHECK.due("dimension of form 0", x.about(0, 0), n);
            CHECK.due("dimension of form 1", x.about(1, 0), 5 - n);
        }
    }

    private static void justTheVariablesOfTheDimension() {
        for (int f = 0; f < 2; f++) {
            for (int n = 1; n <= 4; n++) {
                RationalForms x = new RationalForms();
                x.begin(f, n);
                x.put(f, n - 1, n - 1, 6);
                CHECK.due("the last variable of " + n, x.about(f, 4), 6);
                final int form = f;
                final int behind = n;
                CHECK.due("the variable behind those of " + n, Answers.thrownBy(() -> x.put(form, behind, 0, 1)),
                        IndexOutOfBoundsException.class);
            }
        }
    }

    private static void allNumbersAreZero() {
        for (int f = 0; f < 2; f++) {
            for (int n = 1; n <= 4; n++) {
                RationalForms x = new RationalForms();
                Make.set(x, f, FULL);
                x.begin(f, n);
                CHECK.due("rank after begin(" + f + ", " + n + ")", x.about(f, 1), 0);
                for (int i = 0; i < n; i++) {
                    for (int j = 0; j < n; j++) {
                        CHECK.due("number " + i + ", " + j + " of " + n, x.put(f, i, j, 0), 0);
                    }
                }
            }
        }
        RationalForms one = Make.form(5);
        one.begin(0, 1);
        CHECK.due("the one number, dimension 1 again", one.put(0, 0, 0, 1), 0);
    }

    private static void numbersDoNotComeBack() {
        RationalForms x = Make.form(FULL);
        x.begin(0, 1);
        x.begin(0, 4);
        for (int i = 0; i < 4; i++) {
            for (int j = 0; j < 4; j++) {
                CHECK.due("number " + i + ", " + j + " after 4, 1 and 4", x.put(0, i, j, 0), 0);
            }
        }
    }

    private static void theOtherFormStays() {
        RationalForms x = Make.form(FULL);
        Make.set(x, 1, Make.diagonal(6, 5));
        x.begin(0, 2);
        CHECK.due("dimension of form 1", x.about(1, 0), 2);
        CHECK.due("discriminant of form 1", x.about(1, 4), 30);
        Make.set(x, 0, Make.diagonal(2, 3, 5));
        x.begin(1, 1);
        CHECK.due("dimension of form 0", x.about(0, 0), 3);
        CHECK.due("discriminant of form 0", x.about(0, 4), 30);
    }

    private static void noSuchForm() {
        for (int f : Refused.NO_FORMS) {
            for (int n = 1; n <= 4; n++) {
                int dimension = n;
                REFUSED.argument("begin(" + f + ", " + n + ")", x -> x.begin(f, dimension));
            }
            REFUSED.argument("begin(" + f + ", 0)", x -> x.begin(f, 0));
        }
    }

    private static void dimensionTooSmall() {
        for (int n : new int[] {0, -1, -4, Refused.MIN}) {
            REFUSED.argument("begin(0, " + n + ")", x -> x.begin(0, n));
            REFUSED.argument("begin(1, " + n + ")", x -> x.begin(1, n));
        }
    }

    private static void dimensionTooLarge() {
        for (int n : new int[] {5, 6, Refused.MAX}) {
            REFUSED.argument("begin(0, " + n + ")", x -> x.begin(0, n));
            REFUSED.argument("begin(1, " + n + ")", x -> x.begin(1, n));
        }
    }
}
