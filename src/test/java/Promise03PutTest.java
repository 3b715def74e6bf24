/** Promise 3: put. */
public final class Promise03PutTest {
    private static final Check CHECK = new Check();
    private static final Refused REFUSED = new Refused(CHECK);

    public static void main(String[] args) {
        theOneThatWasThere();
        bothNumbersBecomeIt();
        otherNumbersStay();
        everyNumberThatIsAllowed();
        noSuchForm();
        numberTooSmall();
        numberTooLarge();
        noSuchVariable();
        variablesThatItHadOnce();
        whichComesFirst();
        CHECK.end();
    }

    private static void theOneThatWasThere() {
        for (int f = 0; f < 2; f++) {
            RationalForms x = new RationalForms();
            x.begin(f, 4);
            CHECK.due("the first number", x.put(f, 1, 3, -6), 0);
            CHECK.due("the one that was there", x.put(f, 1, 3, 6), -6);
            CHECK.due("the one across", x.put(f, 3, 1, 2), 6);
            CHECK.due("the one across, back", x.put(f, 1, 3, 2), 2);
            CHECK.due("the same again", x.put(f, 1, 3, 0), 2);
            CHECK.due("0 was there", x.put(f, 3, 1, 0), 0);
            CHECK.due("on the diagonal", x.put(f, 3, 3, 5), 0);
            CHECK.due("on the diagonal, again", x.put(f, 3, 3, 0), 5);
        }
    }

    private static void bothNumbersBecomeIt() {
        for (int i = 0; i < 4; i++) {
            for (int j = 0; j < 4; j++) {
                RationalForms x = new RationalForms();
                x.begin(0, 4);
                x.put(0, i, j, 5);
                CHECK.due("m(" + i + ", " + j + ")", x.put(0, i, j, 5), 5);
                CHECK.due("m(" + j + ", " + i + ")", x.put(0, j, i, 5), 5);
                CHECK.due("all of it", x.value(0, 1, 1, 1, 1), i == j ? 5L : 10L);
            }
        }
    }

    private static void otherNumbersStay() {
        RationalForms x = new RationalForms();
        x.begin(0, 4);
        x.begin(1, 4);
        int v = -6;
        for (int i = 0; i < 4; i++) {
            for (int j = i; j < 4; j++) {
                x.put(0, i, j, v);
                x.put(1, i, j, -v);
                v++;
            }
        }
        v = -6;
        for (int i = 0; i < 4; i++) {
            for (int j = i; j < 4; j++) {
                CHECK.due("form 0 at " + i + ", " + j, x.put(0, i, j, 1), v);
                CHECK.due("form 1 at " + i + ", " + j, x.put(1, j, i, 1), -v);
                v++;
            }
        }
    }

    private static void everyNumberThatIsAllowed() {
        for (int f = 0; f < 2; f++) {
            RationalForms x = new RationalForms();
            for (int v = -6; v <= 6; v++) {
                x.put(f, 0, 0, v);
                CHECK.due("value of " + v, x.value(f, 1, 0, 0, 0), (long) v);
                CHECK.due("what was there", x.put(f, 0, 0, 0), v);
            }
        }
    }

    private static void noSuchForm() {
        for (int f : Refused.NO_FORMS) {
            REFUSED.argument("put(" + f + ", 0, 0, 1)", x -> x.put(f, 0, 0, 1));
        }
    }

    private static void numberTooSmall() {
        for (int v : new int[] {-7, -8, Refused.MIN}) {
            REFUSED.argument("put(0, 0, 0, " + v + ")", x -> x.put(0, 0, 0, v));
            REFUSED.argument("put(1, 0, 0, " + v + ")", x -> x.put(1, 0, 0, v));
        }
    }

    private static void numberTooLarge() {
        for (int v : new int[] {7, 8, Refused.MAX}) {
            REFUSED.argument("put(0, 0, 0, " + v + ")", x -> x.put(0, 0, 0, v));
            REFUSED.argument("put(1, 0, 0, " + v + ")", x -> x.put(1, 0, 0, v));
        }
    }

    /** In every dimension the last variable is there, and those before and behind are not. */
    private static void noSuchVariable() {
        for (int n = 1; n <= 4; n++) {
            int[][] m = new Make(n).matrix(n, 6);
            Refused form0 = REFUSED.with(m, new int[4][4]);
            Refused form1 = REFUSED.with(new int[4][4], m);
            for (int i : new int[] {-1, n, n + 1, Refused.MIN, Refused.MAX}) {
                form0.index("put(0, " + i + ", 0, 1)", x -> x.put(0, i, 0, 1));
                form0.index("put(0, 0, " + i + ", 1)", x -> x.put(0, 0, i, 1));
                form0.index("put(0, " + i + ", " + i + ", 1)", x -> x.put(0, i, i, 1));
                form1.index("put(1, " + i + ", 0, 1)", x -> x.put(1, i, 0, 1));
                form1.index("put(1, 0, " + i + ", 1)", x -> x.put(1, 0, i, 1));
                form1.index("put(1, " + i + ", " + i + ", 1)", x -> x.put(1, i, i, 1));
            }
            RationalForms x = Make.form(m);
            x.put(0, n - 1, 0, 3);
            CHECK.due("the first and the last of " + n, x.put(0, 0, n - 1, 0), 3);
        }
    }

    private static void variablesThatItHadOnce() {
        for (int n = 1; n <= 3; n++) {
            RationalForms x = Make.form(1, 2, 3, 4);
            x.begin(0, n);
            final int behind = n;
            CHECK.due("the variable behind, dimension " + n + " after 4",
                    Answers.thrownBy(() -> x.put(0, behind, behind, 1)), IndexOutOfBoundsException.class);
        }
    }

    private static void whichComesFirst() {
        REFUSED.argument("put(2, 9, 9, 1)", x -> x.put(2, 9, 9, 1));
        REFUSED.argument("put(0, 9, 0, 7)", x -> x.put(0, 9, 0, 7));
        REFUSED.argument("put(1, 0, -1, -7)", x -> x.put(1, 0, -1, -7));
    }
}
