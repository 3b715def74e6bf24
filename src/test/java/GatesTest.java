import java.util.ArrayList;
import java.util.Arrays;
import java.util.List;

/**
 * Which calls are refused, and with which exception: every method with every choice of arguments
 * from both sides of each bound that the document names, for forms of every dimension.
 */
public final class GatesTest {
    private static final int[] EDGES = {Integer.MIN_VALUE, -1001, -1000, -997, -7, -6, -2, -1, 0, 1, 2, 3, 4, 5,
        6, 7, 997, 998, 1000, 1001, 1009, Integer.MAX_VALUE};
    private static final int[] FORMS = {Integer.MIN_VALUE, -1, 0, 1, 2, Integer.MAX_VALUE};
    private static final int[] POINTS = {Integer.MIN_VALUE, -1001, -1000, 0, 1000, 1001, Integer.MAX_VALUE};
    private static final Object NOTHING = "nothing";
    private static final Object ARGUMENT = IllegalArgumentException.class;
    private static final Object INDEX = IndexOutOfBoundsException.class;
    private static final Object ARITHMETIC = ArithmeticException.class;
    private static final Check CHECK = new Check();

    public static void main(String[] args) {
        symbols();
        for (int n = 1; n <= 4; n++) {
            int[][][] forms = {new Make(n).matrix(n, 6), new Make(n + 7).matrix(5 - n, 6)};
            onFormsAlone(forms);
            onFormsAndOne(forms);
            puts(forms);
            values(forms);
        }
        CHECK.end();
    }

    private static void symbols() {
        for (int a : EDGES) {
            for (int b : EDGES) {
                for (int place : EDGES) {
                    Object want = a == 0 || b == 0 ? ARITHMETIC : Make.isPlace(place) ? NOTHING : ARGUMENT;
                    due("symbol", want, () -> new RationalForms().symbol(a, b, place), a, b, place);
                }
            }
        }
    }

    private static void onFormsAlone(int[][][] forms) {
        due("equivalent", NOTHING, () -> made(forms).equivalent());
        for (int f : FORMS) {
            due("obstacle", isForm(f) ? NOTHING : ARGUMENT, () -> made(forms).obstacle(f), f);
        }
    }

    private static void onFormsAndOne(int[][][] forms) {
        for (int f : FORMS) {
            List<Integer> signs = isForm(f) ? Book.of(forms[f]).signs() : new ArrayList<>();
            for (int v : EDGES) {
                Object atPlace = isForm(f) && Make.isPlace(v) ? NOTHING : ARGUMENT;
                Object taken = v == 0 ? ARITHMETIC : v >= -1000 && v <= 1000 ? NOTHING : ARGUMENT;
                boolean known = v >= 0 && v < signs.size();
                due("begin", isForm(f) && v >= 1 && v <= 4 ? NOTHING : ARGUMENT, () -> made(forms).begin(f, v), f, v);
                due("about", isForm(f) && v >= 0 && v <= 4 ? NOTHING : ARGUMENT, () -> made(forms).about(f, v), f, v);
                due("hasse", atPlace, () -> made(forms).hasse(f, v), f, v);
                due("isotropicAt", atPlace, () -> made(forms).isotropicAt(f, v), f, v);
                due("takes", isForm(f) ? taken : ARGUMENT, () -> made(forms).takes(f, v), f, v);
                due("sign", !isForm(f) ? ARGUMENT : known ? NOTHING : INDEX, () -> made(forms).sign(f, v), f, v);
            }
        }
    }

    private static void puts(int[][][] forms) {
        for (int f : FORMS) {
            for (int v : EDGES) {
                for (int i : EDGES) {
                    for (int j : EDGES) {
                        Object want = ARGUMENT;
                        if (isForm(f) && v >= -6 && v <= 6) {
                            int n = forms[f].length;
                            want = i >= 0 && i < n && j >= 0 && j < n ? NOTHING : INDEX;
                        }
                        due("put", want, () -> made(forms).put(f, i, j, v), f, i, j, v);
                    }
                }
            }
        }
    }

    private static void values(int[][][] forms) {
        int all = POINTS.length * POINTS.length * POINTS.length * POINTS.length;
        for (int f : FORMS) {
            for (int code = 0; code < all; code++) {
                int[] p = new int[4];
                int rest = code;
                boolean allowed = isForm(f);
                for (int k = 0; k < 4; k++) {
                    p[k] = POINTS[rest % POINTS.length];
                    rest /= POINTS.length;
                    boolean has = isForm(f) && k < forms[f].length;
                    allowed &= !has || (p[k] >= -1000 && p[k] <= 1000);
                }
                due("value", allowed ? NOTHING : ARGUMENT, () -> made(forms).value(f, p[0], p[1], p[2], p[3]),
                        f, p[0], p[1], p[2], p[3]);
            }
        }
    }

    private static boolean isForm(int f) {
        return f == 0 || f == 1;
    }

    private static RationalForms made(int[][][] forms) {
        RationalForms x = Make.form(forms[0]);
        Make.set(x, 1, forms[1]);
        return x;
    }

    private static void due(String method, Object want, Runnable call, int... arguments) {
        Object got = Answers.thrownBy(call);
        if (got != want) {
            CHECK.due(method + Arrays.toString(arguments) + " throws", got, want);
        }
    }
}
