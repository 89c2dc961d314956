/** Counts the answers that are not due and prints them. */
final class Check {
    private int wrong = 0;
    private int all = 0;

    /** A call that may throw. */
    interface Call {
        long run();
    }

    void due(String call, long got, long want) {
        all++;
        if (got != want) {
            wrong++;
            System.out.println(call + " answered " + got + ", due is " + want);
        }
    }

    void dueText(String call, String got, String want) {
        all++;
        if (!got.equals(want)) {
            wrong++;
            System.out.println(call + " answered " + got + ", due is " + want);
        }
    }

    void dueThrow(String call, Class<? extends RuntimeException> want, Call run) {
        all++;
        String got = "no exception";
        try {
            run.run();
        } catch (RuntimeException e) {
            got = e.getClass().getName();
        }
        if (!got.equals(want.getName())) {
            wrong++;
            System.out.println(call + " gave " + got + ", due is " + want.getName());
        }
    }

    boolean failed() {
        return wrong > 0;
    }

    void end(String name) {
        System.out.println(name + ": " + (all - wrong) + " of " + all + " answers as due");
        if (failed()) {
            System.exit(1);
        }
    }
}
