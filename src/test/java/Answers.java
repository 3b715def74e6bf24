import java.util.ArrayList;
import java.util.List;

/** All that an object answers, as a list that can be compared with another object's. */
final class Answers {
    private static final int[] PLACES = {0, 2, 3, 5, 11};
    private static final int[] NUMBERS = {-1000, -7, -1, 1, 6, 1000};

    private final List<Object> all = new ArrayList<>();
    private final RationalForms x;

    private Answers(RationalForms x) {
        this.x = x;
    }

    /** Of no more than 200 calls; they leave both forms new, in four variables. */
    static List<Object> of(RationalForms x) {
        Answers answers = new Answers(x);
        answers.all.add(x.equivalent());
        for (int f = 0; f < 2; f++) {
            answers.askAbout(f);
        }
        for (int f = 0; f < 2; f++) {
            answers.takeNumbersOut(f);
            answers.lookForNumbersLeft(f);
        }
        return answers.all;
    }

    /** The exception that the call throws, by its very class; "nothing" if it throws none. */
    static Object thrownBy(Runnable call) {
        try {
            call.run();
        } catch (RuntimeException e) {
            return e.getClass();
        }
        return "nothing";
    }

    static List<Integer> signs(RationalForms x, int f) {
        List<Integer> found = new ArrayList<>();
        int k = 0;
        while (k < 100) {
            try {
                found.add(x.sign(f, k));
            } catch (IndexOutOfBoundsException e) {
                return found;
            }
            k++;
        }
        throw new IllegalStateException("no end of signs");
    }

    private void askAbout(int f) {
        for (int what = 0; what <= 4; what++) {
            all.add(x.about(f, what));
        }
        for (int place : PLACES) {
            all.add(x.hasse(f, place));
            all.add(x.isotropicAt(f, place));
        }
        all.add(x.obstacle(f));
        all.add(signs(x, f));
        for (int v : NUMBERS) {
            all.add(x.takes(f, v));
        }
        all.add(x.value(f, 1, 10, 100, 1000));
        all.add(x.value(f, 1000, -300, 20, 7));
        all.add(x.symbol(f + 2, 3, 3));
    }

    private void takeNumbersOut(int f) {
        int n = x.about(f, 0);
        for (int i = 0; i < n; i++) {
            for (int j = i; j < n; j++) {
                all.add(x.put(f, i, j, 0));
            }
        }
        all.add(thrownBy(() -> x.put(f, n, 0, 0)));
    }

    private void lookForNumbersLeft(int f) {
        x.begin(f, 4);
        for (int i = 0; i < 4; i++) {
            for (int j = 0; j < 4; j++) {
                all.add(x.put(f, i, j, 0));
            }
        }
    }
}
