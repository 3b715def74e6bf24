/** Promises 4 to 10 and 12: many forms, against the document's terms followed word for word. */
public final class ByTheBookTest {
    private static final int FORMS = 160;
    private static final int[] PLACES = {0, 2, 3, 5, 7, 11, 13, 17, 19, 23, 29, 31, 101, 499, 997};
    private static final Check CHECK = new Check();

    public static void main(String[] args) {
        symbols();
        Make make = new Make(20261115);
        for (int count = 0; count < FORMS; count++) {
            int[][] m = make.matrix(1 + count % 4, count % 3 == 0 ? 2 : 6);
            int[][] n = count % 2 == 0 ? make.matrix(m.length, 6) : changed(m, make);
            compare(m, n, make);
        }
        CHECK.end();
    }

    private static void symbols() {
        Make make = new Make(77);
        for (int count = 0; count < 3000; count++) {
            int a = any(make);
            int b = any(make);
            int place = PLACES[make.number(0, PLACES.length - 1)];
            CHECK.due("symbol(" + a + ", " + b + ", " + place + ")",
                    new RationalForms().symbol(a, b, place),
                    Book.symbol(Book.Ratio.of(a), Book.Ratio.of(b), place));
        }
    }

    private static int any(Make make) {
        int n = make.number(-40, 40) * (make.number(0, 1) == 0 ? 1 : make.number(1, 50_000_000));
        return n == 0 ? Integer.MIN_VALUE : n;
    }

    /** The same form in other variables where its numbers stay small enough, else a near one. */
    private static int[][] changed(int[][] m, Make make) {
        int[][] result = m;
        for (int attempt = 0; attempt < 12 && m.length > 1; attempt++) {
            int from = make.number(0, m.length - 1);
            int to = (from + make.number(1, m.length - 1)) % m.length;
            int[][] next = added(result, from, to, make.number(0, 1) == 0 ? 1 : -1);
            if (fits(next)) {
                result = next;
            }
        }
        return result;
    }

    private static int[][] added(int[][] m, int from, int to, int times) {
        int[][] r = new int[m.length][];
        for (int i = 0; i < m.length; i++) {
            r[i] = m[i].clone();
        }
        for (int j = 0; j < m.length; j++) {
            r[to][j] += times * r[from][j];
        }
        for (int j = 0; j < m.length; j++) {
            r[j][to] += times * r[j][from];
        }
        return r;
    }

    private static boolean fits(int[][] m) {
        for (int[] row : m) {
            for (int v : row) {
                if (v < -6 || v > 6) {
                    return false;
                }
            }
        }
        return true;
    }

    private static void compare(int[][] m, int[][] n, Make make) {
        String name = Make.text(m);
        Book book = Book.of(m);
        RationalForms x = Make.form(m);
        Make.set(x, 1, n);
        CHECK.due(name + " dimension", x.about(0, 0), book.dimension);
        CHECK.due(name + " rank", x.about(0, 1), book.rank());
        CHECK.due(name + " positive", x.about(0, 2), book.positive());
        CHECK.due(name + " negative", x.about(0, 3), book.negative());
        CHECK.due(name + " discriminant", (long) x.about(0, 4), book.discriminant());
        long d = book.discriminant();
        for (int place : PLACES) {
            CHECK.due(name + " hasse " + place, x.hasse(0, place), book.hasse(place));
            CHECK.due(name + " isotropicAt " + place, x.isotropicAt(0, place), book.isotropicAt(place, d));
        }
        CHECK.due(name + " obstacle", x.obstacle(0), book.obstacle());
        CHECK.due(name + " signs", Answers.signs(x, 0), book.signs());
        for (int count = 0; count < 6; count++) {
            int v = make.number(1, 1000) * (count % 2 == 0 ? 1 : -1);
            CHECK.due(name + " takes " + v, x.takes(0, v), book.takes(v));
        }
        CHECK.due(name + " equivalent " + Make.text(n), x.equivalent(), book.equivalent(Book.of(n)));
    }
}
