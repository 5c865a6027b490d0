/** Compares answers with those that are due, prints each wrong one, and counts both kinds. */
final class Due {
    private final String suite;
    private int passed = 0;
    private int failed = 0;

    Due(String suite) {
        this.suite = suite;
    }

    void answer(String call, Object got, Object want) {
        if (got.equals(want)) {
            passed++;
        } else {
            failed++;
            System.out.println(suite + ", " + call + " answered " + got + ", due is " + want);
        }
    }

    /** The class has to be the very one: a subclass of it would be another exception. */
    void thrown(String call, Class<? extends RuntimeException> want, Runnable action) {
        String got = "nothing";
        try {
            action.run();
        } catch (RuntimeException e) {
            got = e.getClass().getName();
        }
        answer("the exception of " + call, got, want.getName());
    }

    void finish() {
        System.out.println(suite + ": " + passed + " passed, " + failed + " failed");
        if (failed > 0 || passed == 0) {
            System.exit(1);
        }
    }
}
