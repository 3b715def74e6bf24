import java.util.List;
import java.util.function.Function;

/** An object is good for 512 calls after it has been made, whichever they are: the last answers as the first. */
public final class CallsTest {
    private static final int MOST_CALLS = 512;
    private static final int[][] FULL = {{6, -6, 5, 6}, {-6, -6, 4, -5}, {5, 4, 6, -6}, {6, -5, -6, -6}};
    private static final Check CHECK = new Check();

    public static void main(String[] args) {
        eachCallAgainAndAgain();
        allCallsInTurn();
        refusedCallsAmongThem();
        putAgainAndAgain();
        beginAgainAndAgain();
        askingChangesNothing();
        manyFormsInTurn();
        CHECK.end();
    }

    private static List<Function<RationalForms, Object>> calls() {
        return List.of(
                x -> x.about(0, 4),
                x -> x.symbol(Integer.MIN_VALUE, -3, 3),
                x -> x.hasse(0, 997),
                x -> x.isotropicAt(0, 2),
                x -> x.obstacle(0),
                x -> x.takes(0, -1000),
                x -> x.takes(1, 999),
                x -> x.equivalent(),
                x -> x.value(0, 1000, -1000, 999, 1),
                x -> x.sign(1, 0),
                x -> x.put(1, 0, 1, 1));
    }

    /** Made with 15 calls. */
    private static RationalForms made() {
        RationalForms x = Make.form(FULL);
        x.begin(1, 2);
        x.put(1, 0, 0, 2);
        x.put(1, 0, 1, 1);
        x.put(1, 1, 1, 6);
        return x;
    }

    private static void eachCallAgainAndAgain() {
        for (Function<RationalForms, Object> call : calls()) {
            RationalForms x = made();
            Object first = call.apply(x);
            for (int count = 17; count <= MOST_CALLS; count++) {
                CHECK.due("call " + count, call.apply(x), first);
            }
        }
    }

    private static void allCallsInTurn() {
        List<Function<RationalForms, Object>> calls = calls();
        RationalForms x = made();
        for (int count = 16; count <= MOST_CALLS; count++) {
            Function<RationalForms, Object> call = calls.get(count % calls.size());
            CHECK.due("call " + count + " in turn", call.apply(x), call.apply(made()));
        }
    }

    private static void refusedCallsAmongThem() {
        RationalForms x = made();
        for (int count = 16; count < MOST_CALLS; count++) {
            int wrong = count;
            CHECK.due("refused call " + count, Answers.thrownBy(() -> x.begin(0, wrong)), IllegalArgumentException.class);
        }
        CHECK.due("the last call behind refused ones", x.about(0, 4), 14929);
    }

    private static void putAgainAndAgain() {
        RationalForms x = new RationalForms();
        int before = 0;
        for (int count = 1; count <= MOST_CALLS; count++) {
            int v = count % 13 - 6;
            CHECK.due("put " + count, x.put(0, 0, 0, v), before);
            before = v;
        }
    }

    private static void beginAgainAndAgain() {
        RationalForms x = new RationalForms();
        for (int count = 1; count < MOST_CALLS; count++) {
            x.begin(count % 2, 1 + count % 4);
        }
        CHECK.due("the last call behind begin", x.about(1, 0), 4);
    }

    /** Nor does putting the number that is there. */
    private static void askingChangesNothing() {
        for (Function<RationalForms, Object> call : calls()) {
            RationalForms x = made();
            call.apply(x);
            CHECK.due("all answers behind a call", Answers.of(x), Answers.of(made()));
        }
    }

    /** One object, each time with another number put, answers as a new one: nothing fills up in it. */
    private static void manyFormsInTurn() {
        Make make = new Make(512);
        RationalForms x = new RationalForms();
        int[][] m = new int[4][4];
        x.begin(0, 4);
        int calls = 1;
        while (calls <= MOST_CALLS - 20) {
            int i = make.number(0, 3);
            int j = make.number(0, 3);
            m[i][j] = make.number(-6, 6);
            m[j][i] = m[i][j];
            x.put(0, i, j, m[i][j]);
            String name = Make.text(m) + " behind " + calls + " calls";
            List<Integer> signs = Answers.signs(x, 0);
            CHECK.due("signs of " + name, signs, Answers.signs(Make.form(m), 0));
            CHECK.due("obstacle of " + name, x.obstacle(0), Make.form(m).obstacle(0));
            calls += signs.size() + 3;
        }
    }
}
