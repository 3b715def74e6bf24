/** Promise 11: value. */
public final class Promise11ValueTest {
    private static final int MIN = Integer.MIN_VALUE;
    private static final int MAX = Integer.MAX_VALUE;
    private static final Check CHECK = new Check();

    public static void main(String[] args) {
        ordinary();
        theEdges();
        variablesThatItLacks();
        wrongInputs();
        CHECK.end();
    }

    private static void ordinary() {
        RationalForms x = Make.form(new int[][] {{1, 2, -3, 0}, {2, -4, 5, 1}, {-3, 5, 6, -6}, {0, 1, -6, 3}});
        CHECK.due("value(0, 0, 0, 0, 0)", x.value(0, 0, 0, 0, 0), 0L);
        CHECK.due("value(0, 1, 0, 0, 0)", x.value(0, 1, 0, 0, 0), 1L);
        CHECK.due("value(0, 0, 1, 0, 0)", x.value(0, 0, 1, 0, 0), -4L);
        CHECK.due("value(0, 0, 0, 1, 0)", x.value(0, 0, 0, 1, 0), 6L);
        CHECK.due("value(0, 0, 0, 0, 1)", x.value(0, 0, 0, 0, 1), 3L);
        CHECK.due("value(0, 1, 1, 0, 0)", x.value(0, 1, 1, 0, 0), 1L);
        CHECK.due("value(0, 0, 1, 1, 0)", x.value(0, 0, 1, 1, 0), 12L);
        CHECK.due("value(0, 0, 0, 1, -2)", x.value(0, 0, 0, 1, -2), 42L);
        CHECK.due("value(0, 1, 2, 3, 4)", x.value(0, 1, 2, 3, 4), 1L - 16 + 54 + 48 + 2 * (4 - 9 + 30 + 8 - 72));
        CHECK.due("form 1", x.value(1, 1, 2, 3, 4), 0L);
    }

    private static void theEdges() {
        int[][] all = {{6, 6, 6, 6}, {6, 6, 6, 6}, {6, 6, 6, 6}, {6, 6, 6, 6}};
        RationalForms x = Make.form(all);
        CHECK.due("highest", x.value(0, 1000, 1000, 1000, 1000), 96_000_000L);
        CHECK.due("highest, below 0", x.value(0, -1000, -1000, -1000, -1000), 96_000_000L);
        Make.set(x, 1, Make.diagonal(-6, -6, -6, -6));
        CHECK.due("lowest", x.value(1, 1000, -1000, 1000, -1000), -24_000_000L);
    }

    private static void variablesThatItLacks() {
        CHECK.due("dimension 1", Make.form(-3).value(0, 2, 9999, MIN, MAX), -12L);
        CHECK.due("dimension 2", Make.form(1, 2).value(0, 1, 1, 1001, -1001), 3L);
        CHECK.due("dimension 3", Make.form(1, 2, 3).value(0, 1, 1, 1, MAX), 6L);
        // What was put for a variable that the form had once does not count.
        RationalForms x = Make.form(1, 2, 3, 4);
        x.begin(0, 2);
        x.put(0, 0, 0, 1);
        CHECK.due("dimension 2 after 4", x.value(0, 3, 5, 7, 9), 9L);
    }

    private static void wrongInputs() {
        RationalForms x = Make.form(1, 2, 3, 4);
        for (int f : new int[] {-1, 2, MIN, MAX}) {
            CHECK.badArgument("value(" + f + ", 0, 0, 0, 0)", () -> x.value(f, 0, 0, 0, 0));
        }
        for (int v : new int[] {-1001, 1001, MIN, MAX}) {
            CHECK.badArgument("value(0, " + v + ", 0, 0, 0)", () -> x.value(0, v, 0, 0, 0));
            CHECK.badArgument("value(0, 0, " + v + ", 0, 0)", () -> x.value(0, 0, v, 0, 0));
            CHECK.badArgument("value(0, 0, 0, " + v + ", 0)", () -> x.value(0, 0, 0, v, 0));
            CHECK.badArgument("value(0, 0, 0, 0, " + v + ")", () -> x.value(0, 0, 0, 0, v));
            CHECK.badArgument("value(1, " + v + ", 0, 0, 0) of dimension 1", () -> x.value(1, v, 0, 0, 0));
        }
    }
}
