import java.util.Arrays;

/** Forms for the tests, and a fixed sequence of numbers to make many of them. */
final class Make {
    /** Neither 0 nor a prime up to 1000: on both sides of the first and the last that are, and far off. */
    static final int[] NO_PLACES = {1, 4, 6, 9, 15, 49, 961, 996, 998, 999, 1000, 1001, 1009, 1013,
        -1, -2, -3, -997, -1000, Integer.MIN_VALUE, Integer.MIN_VALUE + 2, Integer.MAX_VALUE};

    private long state;

    Make(long seed) {
        state = seed;
    }

    int number(int low, int high) {
        state = state * 6364136223846793005L + 1442695040888963407L;
        return low + (int) ((state >>> 33) % (high - low + 1));
    }

    /** Numbers up to largest; about every third form gets a row that depends on another. */
    int[][] matrix(int n, int largest) {
        int[][] m = new int[n][n];
        int zeros = number(0, 3);
        for (int i = 0; i < n; i++) {
            for (int j = i; j < n; j++) {
                boolean zero = number(0, 5) < zeros || (zeros == 2 && i == j);
                m[i][j] = zero ? 0 : number(-largest, largest);
                m[j][i] = m[i][j];
            }
        }
        if (n > 1 && number(0, 2) == 0) {
            copyVariable(m, number(0, n - 2), n - 1);
        }
        return m;
    }

    private static void copyVariable(int[][] m, int from, int to) {
        for (int j = 0; j < m.length; j++) {
            m[to][j] = m[from][j];
        }
        for (int j = 0; j < m.length; j++) {
            m[j][to] = m[j][from];
        }
    }

    static int[][] diagonal(int... a) {
        int[][] m = new int[a.length][a.length];
        for (int i = 0; i < a.length; i++) {
            m[i][i] = a[i];
        }
        return m;
    }

    static void set(RationalForms x, int f, int[][] m) {
        x.begin(f, m.length);
        for (int i = 0; i < m.length; i++) {
            for (int j = i; j < m.length; j++) {
                x.put(f, i, j, m[i][j]);
            }
        }
    }

    static RationalForms form(int[][] m) {
        RationalForms x = new RationalForms();
        set(x, 0, m);
        return x;
    }

    static RationalForms form(int... a) {
        return form(diagonal(a));
    }

    static boolean isPlace(int place) {
        return place == 0 || (place <= 1000 && Book.PRIMES.contains(place));
    }

    static String text(int[][] m) {
        return Arrays.deepToString(m);
    }
}
