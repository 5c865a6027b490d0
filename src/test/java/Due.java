import java.util.NoSuchElementException;

/** Compares answers with those that are due, prints each wrong one, and counts both kinds. */
final class Due {
    private final String suite;
    private int passed = 0;
    private int failed = 0;

    Due(String suite) {
        this.suite = suite;
    }

    void answer(String call, Object got, Object want) {
        if (got.equals(want)) {
            passed++;
        } else {
            failed++;
            System.out.println(suite + ", " + call + " answered " + got + ", due is " + want);
        }
    }

    /** The class has to be the very one: a subclass of it would be another exception. */
    void thrown(String call, Class<? extends RuntimeException> want, Runnable action) {
        String got = "nothing";
        try {
            action.run();
        } catch (RuntimeException e) {
            got = e.getClass().getName();
        }
        answer("the exception of " + call, got, want.getName());
    }

    // ---- short forms for tests of one sentence, whose name tells what they ask

    void is(Object got, Object want) {
        answer(next(), got, want);
    }

    void argument(Runnable action) {
        thrown(next(), IllegalArgumentException.class, action);
    }

    void state(Runnable action) {
        thrown(next(), IllegalStateException.class, action);
    }

    void index(Runnable action) {
        thrown(next(), IndexOutOfBoundsException.class, action);
    }

    void unsupported(Runnable action) {
        thrown(next(), UnsupportedOperationException.class, action);
    }

    void noElement(Runnable action) {
        thrown(next(), NoSuchElementException.class, action);
    }

    void arithmetic(Runnable action) {
        thrown(next(), ArithmeticException.class, action);
    }

    /** The call throws, and whatever can be asked afterwards is as before. */
    void kept(GlidingContest contest, Runnable action) {
        String before = View.of(contest);
        String got = "an answer";
        try {
            action.run();
        } catch (RuntimeException e) {
            got = "an exception";
        }
        answer(next() + " (the call)", got, "an exception");
        answer(next() + " (the state)", View.of(contest), before);
    }

    private String next() {
        return "check " + (passed + failed + 1);
    }

    /** A test that compares nothing does not hold. */
    boolean holds() {
        return failed == 0 && passed > 0;
    }

    void finish() {
        System.out.println(suite + ": " + passed + " passed, " + failed + " failed");
        if (!holds()) {
            System.exit(1);
        }
    }
}
