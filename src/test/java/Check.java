/** Compares answers with those that are due, and counts them. */
final class Check {
    interface Call {
        Number answer();
    }

    private final String name;
    private int passed;
    private int failed;

    Check(String name) {
        this.name = name;
    }

    /** The call answers, and answers this. */
    void due(double want, String told, Call call) {
        String got;
        try {
            double answer = call.answer().doubleValue();
            if (answer == want) {
                passed++;
                return;
            }
            got = String.valueOf(answer);
        } catch (RuntimeException thrown) {
            got = thrown.toString();
        }
        fail(told + " answered " + got + ", due is " + want);
    }

    /** The call throws an exception of exactly this class. */
    void refused(Class<? extends RuntimeException> want, String told, Call call) {
        String got;
        try {
            got = String.valueOf(call.answer());
        } catch (RuntimeException thrown) {
            if (thrown.getClass() == want) {
                passed++;
                return;
            }
            got = thrown.toString();
        }
        fail(told + " answered " + got + ", due is " + want.getSimpleName());
    }

    void outOfRange(String told, Call call) {
        refused(IllegalArgumentException.class, told, call);
    }

    void notThere(String told, Call call) {
        refused(IndexOutOfBoundsException.class, told, call);
    }

    void notNow(String told, Call call) {
        refused(IllegalStateException.class, told, call);
    }

    void holds(boolean condition, String told) {
        if (condition) {
            passed++;
        } else {
            fail(told);
        }
    }

    private void fail(String told) {
        failed++;
        System.out.println(name + ": " + told);
    }

    /** Prints the counts and ends the program with 1, if something failed. */
    void end() {
        System.out.println(name + ": " + passed + " passed, " + failed + " failed");
        if (failed != 0) {
            System.exit(1);
        }
    }
}
