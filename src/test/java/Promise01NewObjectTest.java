/** Promise 1: both forms of a new object have dimension 1 and the number 0. */
public final class Promise01NewObjectTest {
    public static void main(String[] args) {
        Check check = new Check();
        RationalForms x = new RationalForms();
        for (int f = 0; f < 2; f++) {
            final int form = f;
            check.due("dimension of " + f, x.about(f, 0), 1);
            check.due("rank of " + f, x.about(f, 1), 0);
            check.due("value of " + f, x.value(f, 5, 0, 0, 0), 0L);
            check.badIndex("put behind the variable of " + f, () -> x.put(form, 0, 1, 1));
            check.due("number of " + f, x.put(f, 0, 0, 0), 0);
        }
        check.due("equivalent", x.equivalent(), true);

        x.put(0, 0, 0, 4);
        RationalForms y = new RationalForms();
        check.due("another new object", y.put(0, 0, 0, 1), 0);
        check.due("the object before", x.put(0, 0, 0, 1), 4);
        check.end();
    }
}
