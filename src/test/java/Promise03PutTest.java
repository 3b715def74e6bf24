/** Promise 3: put. */
public final class Promise03PutTest {
    private static final Check CHECK = new Check();

    public static void main(String[] args) {
        ordinary();
        wrongInputs();
        whichComesFirst();
        CHECK.end();
    }

    private static void ordinary() {
        RationalForms x = new RationalForms();
        x.begin(0, 4);
        x.begin(1, 4);
        CHECK.due("the first number", x.put(0, 1, 3, -6), 0);
        CHECK.due("the one that was there", x.put(0, 1, 3, 6), -6);
        CHECK.due("the one across", x.put(0, 3, 1, 2), 6);
        CHECK.due("the one across, back", x.put(0, 1, 3, 2), 2);
        CHECK.due("both count", x.value(0, 0, 1, 0, 1), 4L);
        CHECK.due("on the diagonal", x.put(0, 3, 3, 5), 0);
        CHECK.due("on the diagonal, again", x.put(0, 3, 3, 0), 5);
        CHECK.due("form 1 is another", x.put(1, 1, 3, 1), 0);
        CHECK.due("form 0 is as before", x.put(0, 1, 3, 0), 2);
    }

    private static void wrongInputs() {
        RationalForms x = Make.form(1, 2, 3);
        for (int f : new int[] {-1, 2, Integer.MIN_VALUE, Integer.MAX_VALUE}) {
            CHECK.badArgument("put(" + f + ", 0, 0, 1)", () -> x.put(f, 0, 0, 1));
        }
        for (int v : new int[] {-7, 7, Integer.MIN_VALUE, Integer.MAX_VALUE}) {
            CHECK.badArgument("put(0, 0, 0, " + v + ")", () -> x.put(0, 0, 0, v));
        }
        for (int i : new int[] {-1, 3, 4, Integer.MIN_VALUE, Integer.MAX_VALUE}) {
            CHECK.badIndex("put(0, " + i + ", 0, 1)", () -> x.put(0, i, 0, 1));
            CHECK.badIndex("put(0, 0, " + i + ", 1)", () -> x.put(0, 0, i, 1));
        }
        CHECK.due("value after refused calls", x.value(0, 1, 1, 1, 0), 6L);
    }

    private static void whichComesFirst() {
        RationalForms x = new RationalForms();
        CHECK.badArgument("put(2, 9, 9, 1)", () -> x.put(2, 9, 9, 1));
        CHECK.badArgument("put(0, 9, 9, 7)", () -> x.put(0, 9, 9, 7));
    }
}
