/** Counts and prints the answers that are not as due; end() gives the exit code. */
final class Check {
    private int wrong = 0;

    void due(String call, Object got, Object want) {
        if (!got.equals(want)) {
            wrong++;
            System.out.println(call + " answered " + got + ", due is " + want);
        }
    }

    void dueThrow(String call, Class<? extends RuntimeException> want, Runnable run) {
        Object got = "nothing";
        try {
            run.run();
        } catch (RuntimeException e) {
            got = e.getClass();
        }
        due(call + " throws", got, want);
    }

    void badArgument(String call, Runnable run) {
        dueThrow(call, IllegalArgumentException.class, run);
    }

    void badIndex(String call, Runnable run) {
        dueThrow(call, IndexOutOfBoundsException.class, run);
    }

    void badArithmetic(String call, Runnable run) {
        dueThrow(call, ArithmeticException.class, run);
    }

    void end() {
        if (wrong != 0) {
            System.out.println(wrong + " answers are not as due");
            System.exit(1);
        }
    }
}
