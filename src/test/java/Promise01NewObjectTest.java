/** Promise 1: both forms of a new object have dimension 1 and the number 0. */
public final class Promise01NewObjectTest {
    private static final Check CHECK = new Check();
    private static final Refused REFUSED = new Refused(CHECK);

    public static void main(String[] args) {
        bothHaveDimensionOne();
        bothHaveTheNumberZero();
        bothAreAlike();
        eachObjectHasItsOwn();
        asIfBegunWithDimensionOne();
        CHECK.end();
    }

    private static void bothHaveDimensionOne() {
        for (int f = 0; f < 2; f++) {
            final int form = f;
            CHECK.due("dimension of " + f, new RationalForms().about(f, 0), 1);
            CHECK.due("its variable " + f, Answers.thrownBy(() -> new RationalForms().put(form, 0, 0, 1)), "nothing");
            Refused asNew = REFUSED.with(new int[1][1], new int[1][1]);
            asNew.index("put behind the variable of " + f, x -> x.put(form, 0, 1, 1));
            asNew.index("put before the variable of " + f, x -> x.put(form, -1, 0, 1));
            CHECK.due("variables that it lacks " + f, new RationalForms().value(f, 0, 1001, -1001, 5000), 0L);
        }
    }

    private static void bothHaveTheNumberZero() {
        for (int f = 0; f < 2; f++) {
            CHECK.due("number of " + f, new RationalForms().put(f, 0, 0, 6), 0);
            CHECK.due("value of " + f, new RationalForms().value(f, 1000, 0, 0, 0), 0L);
            CHECK.due("rank of " + f, new RationalForms().about(f, 1), 0);
            CHECK.due("discriminant of " + f, new RationalForms().about(f, 4), 1);
            CHECK.due("obstacle of " + f, new RationalForms().obstacle(f), -1);
            CHECK.due("what it takes " + f, new RationalForms().takes(f, 1), false);
        }
    }

    private static void bothAreAlike() {
        CHECK.due("equivalent", new RationalForms().equivalent(), true);
    }

    private static void eachObjectHasItsOwn() {
        RationalForms x = new RationalForms();
        x.put(0, 0, 0, 4);
        x.begin(1, 3);
        RationalForms y = new RationalForms();
        CHECK.due("form 0 of another new object", y.put(0, 0, 0, 1), 0);
        CHECK.due("form 1 of another new object", y.about(1, 0), 1);
        CHECK.due("form 0 of the object before", x.put(0, 0, 0, 1), 4);
        CHECK.due("form 1 of the object before", x.about(1, 0), 3);
    }

    private static void asIfBegunWithDimensionOne() {
        RationalForms begun = new RationalForms();
        begun.begin(0, 1);
        begun.begin(1, 1);
        CHECK.due("all answers", Answers.of(new RationalForms()), Answers.of(begun));
    }
}
