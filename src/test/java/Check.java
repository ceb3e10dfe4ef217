/** Compares answers with those that are due, and counts them. */
final class Check {
    interface Call {
        Number answer();
    }

    interface NumberCall {
        Number answer(int number);
    }

    private final String name;
    private String sentence = "";
    private int passed;
    private int failed;

    Check(String name) {
        this.name = name;
    }

    /** A test of its own for a sentence of the document; one that looks at nothing fails. */
    void sentence(String words, Runnable test) {
        sentence = "'" + words + "': ";
        int before = passed + failed;
        try {
            test.run();
            holds(passed + failed > before, "nothing was looked at");
        } catch (RuntimeException thrown) {
            fail("the test itself stopped by " + thrown);
        }
        sentence = "";
    }

    /** The call answers, and answers this. */
    void due(double want, String told, Call call) {
        String got;
        try {
            double answer = call.answer().doubleValue();
            if (answer == want) {
                passed++;
                return;
            }
            got = String.valueOf(answer);
        } catch (RuntimeException thrown) {
            got = thrown.toString();
        }
        fail(told + " answered " + got + ", due is " + want);
    }

    /** The call throws an exception of exactly this class. */
    void refused(Class<? extends RuntimeException> want, String told, Call call) {
        String got;
        try {
            got = String.valueOf(call.answer());
        } catch (RuntimeException thrown) {
            if (thrown.getClass() == want) {
                passed++;
                return;
            }
            got = thrown.toString();
        }
        fail(told + " answered " + got + ", due is " + want.getSimpleName());
    }

    void outOfRange(String told, Call call) {
        refused(IllegalArgumentException.class, told, call);
    }

    void notThere(String told, Call call) {
        refused(IndexOutOfBoundsException.class, told, call);
    }

    void notNow(String told, Call call) {
        refused(IllegalStateException.class, told, call);
    }

    /** The call answers so at both ends of a range; next to them, and far off, it is out of it. */
    void range(int low, double atLow, int high, double atHigh, NumberCall call) {
        for (int beyond : new int[] {low - 1, high + 1, Integer.MIN_VALUE, Integer.MAX_VALUE}) {
            outOfRange("the call with " + beyond, () -> call.answer(beyond));
        }
        due(atLow, "the call with " + low, () -> call.answer(low));
        due(atHigh, "the call with " + high, () -> call.answer(high));
    }

    /** PLACES or DIALS are there up to the last one, for which the call answers so. */
    void numbers(int last, double atLast, NumberCall call) {
        for (int beyond : new int[] {-1, last + 1, Integer.MIN_VALUE, Integer.MAX_VALUE}) {
            notThere("the call with number " + beyond, () -> call.answer(beyond));
        }
        due(atLast, "the call with number " + last, () -> call.answer(last));
    }

    void holds(boolean condition, String told) {
        if (condition) {
            passed++;
        } else {
            fail(told);
        }
    }

    private void fail(String told) {
        failed++;
        System.out.println(name + ": " + sentence + told);
    }

    /** Prints the counts and ends the program with 1, if something failed. */
    void end() {
        System.out.println(name + ": " + passed + " passed, " + failed + " failed");
        if (failed != 0) {
            System.exit(1);
        }
    }
}
