/** Counts tests, and tells what is not as due. */
final class Tally {
    interface Body {
        void run();
    }

    private int passed;
    private int failed;

    int passed() {
        return passed;
    }

    int failed() {
        return failed;
    }

    void test(String name, Body body) {
        try {
            body.run();
            passed++;
        } catch (RuntimeException | AssertionError e) {
            failed++;
            System.out.println("FAILED " + name + ": " + e);
            StackTraceElement[] trace = e.getStackTrace();
            for (int i = 0; i < Math.min(4, trace.length); i++) {
                System.out.println("    at " + trace[i]);
            }
        }
    }

    static void is(long due, long got) {
        if (due != got) {
            throw new AssertionError("answered " + got + ", due is " + due);
        }
    }

    static void is(String what, long due, long got) {
        if (due != got) {
            throw new AssertionError(what + " answered " + got + ", due is " + due);
        }
    }

    static void throwsA(Class<? extends RuntimeException> due, Body body) {
        Class<?> got = null;
        try {
            body.run();
        } catch (RuntimeException e) {
            got = e.getClass();
        }
        if (got != due) {
            throw new AssertionError("threw " + got + ", due is " + due);
        }
    }

    static void outOfBounds(Body body) {
        throwsA(IndexOutOfBoundsException.class, body);
    }

    static void illegalArgument(Body body) {
        throwsA(IllegalArgumentException.class, body);
    }

    static void illegalState(Body body) {
        throwsA(IllegalStateException.class, body);
    }
}
