/**
 * Promises 8 and 9 by what they mean: a form is isotropic just if whole numbers, not all 0, give
 * it the value 0, and takes v just if some give it v times a square. For small forms a small box
 * holds such numbers if there are any.
 */
public final class BySearchTest {
    private static final int BOX = 14;
    private static final Check CHECK = new Check();

    public static void main(String[] args) {
        Make make = new Make(98);
        for (int count = 0; count < 600; count++) {
            int n = 1 + count % 4;
            int[][] m = make.matrix(n, n == 4 ? 2 : 3);
            RationalForms x = Make.form(m);
            CHECK.due("isotropic " + Make.text(m), x.obstacle(0) == -1, finds(m, 0));
            int v = make.number(1, 6) * (make.number(0, 1) == 0 ? 1 : -1);
            CHECK.due(Make.text(m) + " takes " + v, x.takes(0, v), finds(m, v));
        }
        CHECK.end();
    }

    private static boolean finds(int[][] m, int v) {
        int n = m.length;
        int width = 2 * BOX + 1;
        int all = 1;
        for (int i = 0; i < n; i++) {
            all *= width;
        }
        int[] x = new int[n];
        for (int code = 0; code < all; code++) {
            boolean zero = true;
            int rest = code;
            for (int i = 0; i < n; i++) {
                x[i] = rest % width - BOX;
                rest /= width;
                zero &= x[i] == 0;
            }
            if (!zero && fits(valueOf(m, x), v)) {
                return true;
            }
        }
        return false;
    }

    private static boolean fits(int value, int v) {
        if (v == 0) {
            return value == 0;
        }
        int square = value / v;
        if (value == 0 || value % v != 0 || square < 0) {
            return false;
        }
        int root = (int) Math.round(Math.sqrt(square));
        return root * root == square;
    }

    private static int valueOf(int[][] m, int[] x) {
        int sum = 0;
        for (int i = 0; i < x.length; i++) {
            for (int j = 0; j < x.length; j++) {
                sum += m[i][j] * x[i] * x[j];
            }
        }
        return sum;
    }
}
