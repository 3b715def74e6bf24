/**
 * Refused calls: each throws the exception that is due, and the calls behind it answer as if it
 * had not been made, which an object shows that was made alike and did not get the call.
 */
final class Refused {
    interface Call {
        void on(RationalForms x);
    }

    static final int MIN = Integer.MIN_VALUE;
    static final int MAX = Integer.MAX_VALUE;
    /** The first numbers on both sides that name no form, and the last ones that there are. */
    static final int[] NO_FORMS = {-1, 2, MIN, MAX};

    private static final int[][] NEW = {{0}};
    private static final int[][][][] STATES = {
        {NEW, NEW},
        {{{1, 2, -3, 4}, {2, -5, 6, -1}, {-3, 6, 2, -6}, {4, -1, -6, 3}}, {{-6}}},
        {{{2, 3}, {3, -4}}, {{0, 1, 2}, {1, 0, 3}, {2, 3, 0}}},
        {Make.diagonal(1, 1, -3), Make.diagonal(-3, 2, 2)},
    };

    private final Check check;
    private final int[][][][] states;

    Refused(Check check) {
        this(check, STATES);
    }

    private Refused(Check check, int[][][][] states) {
        this.check = check;
        this.states = states;
    }

    /** For calls that are refused because of what the forms are: these two alone are tried. */
    Refused with(int[][] form0, int[][] form1) {
        return new Refused(check, new int[][][][] {{form0, form1}});
    }

    void argument(String call, Call run) {
        refused(call, IllegalArgumentException.class, run);
    }

    void index(String call, Call run) {
        refused(call, IndexOutOfBoundsException.class, run);
    }

    void arithmetic(String call, Call run) {
        refused(call, ArithmeticException.class, run);
    }

    private void refused(String call, Class<? extends RuntimeException> want, Call run) {
        for (int[][][] state : states) {
            String name = call + " with " + Make.text(state[0]) + " and " + Make.text(state[1]);
            RationalForms x = made(state);
            check.due(name + " throws", Answers.thrownBy(() -> run.on(x)), want);
            check.due("what is asked behind " + name, Answers.of(x), Answers.of(made(state)));
        }
    }

    private static RationalForms made(int[][][] state) {
        RationalForms x = new RationalForms();
        for (int f = 0; f < 2; f++) {
            // A new object is tried just as it is made.
            if (state[f] != NEW) {
                Make.set(x, f, state[f]);
            }
        }
        return x;
    }
}
