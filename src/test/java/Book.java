import java.math.BigInteger;
import java.util.ArrayList;
import java.util.List;

/**
 * The document's terms once more, word for word and slowly: fractions, other pivots than the
 * program's, units by the definition, and every prime up to a bound instead of chosen ones.
 */
final class Book {
    /** No determinant of a form is above 20736, so no prime above this matters. */
    static final int HIGHEST = 20749;
    static final List<Integer> PRIMES = primes();
    private static final boolean[][] SQUARES = new boolean[HIGHEST + 1][];

    final int dimension;
    final List<Ratio> a = new ArrayList<>();

    record Ratio(BigInteger top, BigInteger bottom) {
        static Ratio of(long n) {
            return new Ratio(BigInteger.valueOf(n), BigInteger.ONE);
        }

        Ratio plus(Ratio o) {
            return new Ratio(top.multiply(o.bottom).add(o.top.multiply(bottom)), bottom.multiply(o.bottom)).lowest();
        }

        Ratio times(Ratio o) {
            return new Ratio(top.multiply(o.top), bottom.multiply(o.bottom)).lowest();
        }

        Ratio over(Ratio o) {
            return new Ratio(top.multiply(o.bottom), bottom.multiply(o.top)).lowest();
        }

        Ratio negated() {
            return new Ratio(top.negate(), bottom);
        }

        int signum() {
            return top.signum();
        }

        private Ratio lowest() {
            BigInteger g = top.gcd(bottom);
            BigInteger s = bottom.signum() < 0 ? g.negate() : g;
            return new Ratio(top.divide(s), bottom.divide(s));
        }
    }

    private Book(int dimension) {
        this.dimension = dimension;
    }

    static Book of(int[][] m) {
        Book book = new Book(m.length);
        Ratio[][] r = new Ratio[m.length][m.length];
        for (int i = 0; i < m.length; i++) {
            for (int j = 0; j < m.length; j++) {
                r[i][j] = Ratio.of(m[i][j]);
            }
        }
        book.reduce(r, m.length);
        return book;
    }

    Book withMinus(int v) {
        Book more = new Book(a.size() + 1);
        more.a.addAll(a);
        more.a.add(Ratio.of(-v));
        return more;
    }

    /** Takes the pivot from the end, and makes one by x(i) - x(j), so that other terms come out. */
    private void reduce(Ratio[][] r, int left) {
        if (left == 0) {
            return;
        }
        int last = left - 1;
        if (!bringPivot(r, left)) {
            return;
        }
        Ratio pivot = r[last][last];
        a.add(pivot);
        for (int i = 0; i < last; i++) {
            for (int j = 0; j < last; j++) {
                r[i][j] = r[i][j].plus(r[i][last].times(r[last][j]).over(pivot).negated());
            }
        }
        reduce(r, last);
    }

    private static boolean bringPivot(Ratio[][] r, int left) {
        int last = left - 1;
        for (int i = last; i >= 0; i--) {
            if (r[i][i].signum() != 0) {
                exchange(r, i, last, left);
                return true;
            }
        }
        for (int i = last; i >= 0; i--) {
            for (int j = 0; j < i; j++) {
                if (r[i][j].signum() != 0) {
                    subtract(r, j, i, left);
                    exchange(r, i, last, left);
                    return true;
                }
            }
        }
        return false;
    }

    private static void exchange(Ratio[][] r, int i, int k, int left) {
        Ratio[] row = r[i];
        r[i] = r[k];
        r[k] = row;
        for (int j = 0; j < left; j++) {
            Ratio kept = r[j][i];
            r[j][i] = r[j][k];
            r[j][k] = kept;
        }
    }

    private static void subtract(Ratio[][] r, int from, int to, int left) {
        for (int j = 0; j < left; j++) {
            r[to][j] = r[to][j].plus(r[from][j].negated());
        }
        for (int j = 0; j < left; j++) {
            r[j][to] = r[j][to].plus(r[j][from].negated());
        }
    }

    int rank() {
        return a.size();
    }

    int positive() {
        return (int) a.stream().filter(t -> t.signum() > 0).count();
    }

    int negative() {
        return (int) a.stream().filter(t -> t.signum() < 0).count();
    }

    long discriminant() {
        Ratio product = Ratio.of(1);
        for (Ratio t : a) {
            product = product.times(t);
        }
        return classOf(product);
    }

    private static long classOf(Ratio r) {
        long result = r.signum();
        for (int p : PRIMES) {
            if (order(r, p) % 2 != 0) {
                result *= p;
            }
        }
        return result;
    }

    private static int order(Ratio r, int p) {
        return exponent(r.top(), p) - exponent(r.bottom(), p);
    }

    private static int exponent(BigInteger n, int p) {
        BigInteger big = BigInteger.valueOf(p);
        int e = 0;
        for (BigInteger rest = n; rest.mod(big).signum() == 0; rest = rest.divide(big)) {
            e++;
        }
        return e;
    }

    private static int unit(Ratio r, int p) {
        BigInteger big = BigInteger.valueOf(p);
        BigInteger u = r.top().divide(big.pow(exponent(r.top(), p)));
        BigInteger v = r.bottom().divide(big.pow(exponent(r.bottom(), p)));
        int by = p == 2 ? 8 : p;
        int top = u.mod(BigInteger.valueOf(by)).intValue();
        int bottom = v.mod(BigInteger.valueOf(by)).intValue();
        for (int w = 1; w < by; w++) {
            if (((long) w * bottom - top) % by == 0) {
                return w;
            }
        }
        throw new IllegalStateException("no unit");
    }

    private static boolean remainder(int u, int p) {
        if (SQUARES[p] == null) {
            SQUARES[p] = new boolean[p];
            for (long x = 1; x < p; x++) {
                SQUARES[p][(int) (x * x % p)] = true;
            }
        }
        return SQUARES[p][u];
    }

    static boolean square(Ratio r, int place) {
        if (place == 0) {
            return r.signum() > 0;
        }
        return order(r, place) % 2 == 0
                && (place == 2 ? unit(r, 2) == 1 : remainder(unit(r, place), place));
    }

    static int symbol(Ratio x, Ratio y, int place) {
        if (place == 0) {
            return x.signum() < 0 && y.signum() < 0 ? -1 : 1;
        }
        int e = order(x, place);
        int f = order(y, place);
        if (e == 0 && f == 0 && place != 2) {
            return 1;
        }
        int u = unit(x, place);
        int w = unit(y, place);
        if (place == 2) {
            return minusToThe((u - 1) / 2 * ((w - 1) / 2) + e * ((w * w - 1) / 8) + f * ((u * u - 1) / 8));
        }
        return minusToThe((long) e * f * (place - 1) / 2)
                * (f % 2 != 0 && !remainder(u, place) ? -1 : 1)
                * (e % 2 != 0 && !remainder(w, place) ? -1 : 1);
    }

    private static int minusToThe(long power) {
        return power % 2 == 0 ? 1 : -1;
    }

    int hasse(int place) {
        int h = 1;
        for (int i = 0; i < a.size(); i++) {
            for (int j = i + 1; j < a.size(); j++) {
                h *= symbol(a.get(i), a.get(j), place);
            }
        }
        return h;
    }

    boolean isotropicAt(int place, long discriminant) {
        if (rank() < dimension) {
            return true;
        }
        Ratio d = Ratio.of(discriminant);
        Ratio one = Ratio.of(-1);
        return switch (rank()) {
            case 1 -> false;
            case 2 -> square(d.negated(), place);
            case 3 -> hasse(place) == symbol(one, d.negated(), place);
            case 4 -> !square(d, place) || hasse(place) == symbol(one, one, place);
            default -> place != 0 || (positive() > 0 && negative() > 0);
        };
    }

    int obstacle() {
        long d = discriminant();
        if (!isotropicAt(0, d)) {
            return 0;
        }
        for (int p : PRIMES) {
            if (!isotropicAt(p, d)) {
                return p;
            }
        }
        return -1;
    }

    boolean takes(int v) {
        return rank() > 0 && withMinus(v).obstacle() == -1;
    }

    List<Integer> signs() {
        List<Integer> found = new ArrayList<>();
        for (int p : PRIMES) {
            if (hasse(p) == -1) {
                found.add(p);
            }
        }
        return found;
    }

    boolean equivalent(Book o) {
        return dimension == o.dimension && rank() == o.rank() && positive() == o.positive()
                && discriminant() == o.discriminant() && hasse(0) == o.hasse(0)
                && signs().equals(o.signs());
    }

    private static List<Integer> primes() {
        List<Integer> found = new ArrayList<>();
        boolean[] crossed = new boolean[HIGHEST + 1];
        for (int p = 2; p <= HIGHEST; p++) {
            if (!crossed[p]) {
                found.add(p);
                for (int q = p; q <= HIGHEST; q += p) {
                    crossed[q] = true;
                }
            }
        }
        return found;
    }
}
