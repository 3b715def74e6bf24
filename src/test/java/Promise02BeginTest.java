/** Promise 2: begin. */
public final class Promise02BeginTest {
    private static final Check CHECK = new Check();

    public static void main(String[] args) {
        everyDimension();
        numbersAreForgotten();
        wrongInputs();
        CHECK.end();
    }

    private static void everyDimension() {
        RationalForms x = new RationalForms();
        for (int n = 1; n <= 4; n++) {
            x.begin(0, n);
            x.begin(1, 5 - n);
            CHECK.due("dimension of form 0", x.about(0, 0), n);
            CHECK.due("dimension of form 1", x.about(1, 0), 5 - n);
            CHECK.due("rank of form 0", x.about(0, 1), 0);
        }
    }

    private static void numbersAreForgotten() {
        RationalForms x = new RationalForms();
        Make.set(x, 0, new int[][] {{1, 2, 3, 4}, {2, 5, 6, -1}, {3, 6, -2, -3}, {4, -1, -3, -4}});
        Make.set(x, 1, Make.diagonal(6, 5));
        x.begin(0, 2);
        x.begin(0, 4);
        for (int i = 0; i < 4; i++) {
            for (int j = 0; j < 4; j++) {
                CHECK.due("number " + i + ", " + j, x.put(0, i, j, 0), 0);
            }
        }
        CHECK.due("the other form", x.about(1, 4), 30);
        x.begin(1, 2);
        CHECK.due("the same dimension again", x.about(1, 1), 0);
    }

    private static void wrongInputs() {
        RationalForms x = Make.form(3, 5);
        for (int f : new int[] {-1, 2, Integer.MIN_VALUE, Integer.MAX_VALUE}) {
            CHECK.badArgument("begin(" + f + ", 1)", () -> x.begin(f, 1));
        }
        for (int n : new int[] {0, 5, -1, Integer.MIN_VALUE, Integer.MAX_VALUE}) {
            CHECK.badArgument("begin(0, " + n + ")", () -> x.begin(0, n));
        }
        CHECK.due("dimension after refused calls", x.about(0, 0), 2);
        CHECK.due("discriminant after refused calls", x.about(0, 4), 15);
    }
}
