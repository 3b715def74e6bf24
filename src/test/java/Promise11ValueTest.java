/** Promise 11: value. */
public final class Promise11ValueTest {
    private static final int MIN = Integer.MIN_VALUE;
    private static final int MAX = Integer.MAX_VALUE;
    private static final Check CHECK = new Check();
    private static final Refused REFUSED = new Refused(CHECK);

    public static void main(String[] args) {
        ordinary();
        theEdges();
        variablesThatItLacks();
        everyVariableUpToThousand();
        variableTooSmallOrTooLarge();
        noSuchForm();
        CHECK.end();
    }

    private static void ordinary() {
        RationalForms x = Make.form(new int[][] {{1, 2, -3, 0}, {2, -4, 5, 1}, {-3, 5, 6, -6}, {0, 1, -6, 3}});
        CHECK.due("value(0, 0, 0, 0, 0)", x.value(0, 0, 0, 0, 0), 0L);
        CHECK.due("value(0, 1, 0, 0, 0)", x.value(0, 1, 0, 0, 0), 1L);
        CHECK.due("value(0, 0, 1, 0, 0)", x.value(0, 0, 1, 0, 0), -4L);
        CHECK.due("value(0, 0, 0, 1, 0)", x.value(0, 0, 0, 1, 0), 6L);
        CHECK.due("value(0, 0, 0, 0, 1)", x.value(0, 0, 0, 0, 1), 3L);
        CHECK.due("value(0, 1, 1, 0, 0)", x.value(0, 1, 1, 0, 0), 1L);
        CHECK.due("value(0, 0, 1, 1, 0)", x.value(0, 0, 1, 1, 0), 12L);
        CHECK.due("value(0, 0, 0, 1, -2)", x.value(0, 0, 0, 1, -2), 42L);
        CHECK.due("value(0, 1, 2, 3, 4)", x.value(0, 1, 2, 3, 4), 1L - 16 + 54 + 48 + 2 * (4 - 9 + 30 + 8 - 72));
        CHECK.due("form 1", x.value(1, 1, 2, 3, 4), 0L);
    }

    private static void theEdges() {
        int[][] all = {{6, 6, 6, 6}, {6, 6, 6, 6}, {6, 6, 6, 6}, {6, 6, 6, 6}};
        RationalForms x = Make.form(all);
        CHECK.due("highest", x.value(0, 1000, 1000, 1000, 1000), 96_000_000L);
        CHECK.due("highest, below 0", x.value(0, -1000, -1000, -1000, -1000), 96_000_000L);
        Make.set(x, 1, Make.diagonal(-6, -6, -6, -6));
        CHECK.due("lowest", x.value(1, 1000, -1000, 1000, -1000), -24_000_000L);
    }

    private static void variablesThatItLacks() {
        CHECK.due("dimension 1", Make.form(-3).value(0, 2, 9999, MIN, MAX), -12L);
        CHECK.due("dimension 2", Make.form(1, 2).value(0, 1, 1, 1001, -1001), 3L);
        CHECK.due("dimension 3", Make.form(1, 2, 3).value(0, 1, 1, 1, MAX), 6L);
        // What was put for a variable that the form had once does not count.
        RationalForms x = Make.form(1, 2, 3, 4);
        x.begin(0, 2);
        x.put(0, 0, 0, 1);
        CHECK.due("dimension 2 after 4", x.value(0, 3, 5, 7, 9), 9L);
    }

    /** In every dimension, each variable that the form has takes -1000 and 1000. */
    private static void everyVariableUpToThousand() {
        for (int n = 1; n <= 4; n++) {
            for (int at = 0; at < n; at++) {
                int[] a = new int[n];
                a[at] = -6;
                for (int v : new int[] {-1000, 1000}) {
                    int[] point = new int[4];
                    point[at] = v;
                    CHECK.due("variable " + at + " of " + n + " is " + v, value(Make.form(a), point), -6_000_000L);
                }
            }
        }
    }

    /** Those that it has are refused from -1001 and 1001 on, those that it does not have never. */
    private static void variableTooSmallOrTooLarge() {
        for (int n = 1; n <= 4; n++) {
            int[][] m = new Make(n + 10).matrix(n, 6);
            Refused alone = REFUSED.with(m, m);
            for (int at = 0; at < 4; at++) {
                for (int v : new int[] {-1001, 1001, -1002, 1002, MIN, MAX}) {
                    int[] point = new int[4];
                    point[at] = v;
                    String call = "value with variable " + at + " of " + n + " at " + v;
                    if (at < n) {
                        alone.argument(call, x -> x.value(0, point[0], point[1], point[2], point[3]));
                        alone.argument(call, x -> x.value(1, point[0], point[1], point[2], point[3]));
                    } else {
                        CHECK.due(call, value(Make.form(m), point), 0L);
                    }
                }
            }
        }
    }

    private static long value(RationalForms x, int[] point) {
        return x.value(0, point[0], point[1], point[2], point[3]);
    }

    private static void noSuchForm() {
        for (int f : Refused.NO_FORMS) {
            REFUSED.argument("value(" + f + ", 0, 0, 0, 0)", x -> x.value(f, 0, 0, 0, 0));
            REFUSED.argument("value(" + f + ", 1, 2, 3, 4)", x -> x.value(f, 1, 2, 3, 4));
        }
    }
}
