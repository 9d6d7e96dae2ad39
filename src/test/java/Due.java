/** What the tests have in common: answers and exceptions that are due. */
final class Due {
    /** A call that may throw. */
    interface Call {
        void make();
    }

    private static int calls = 0;
    private static int wrong = 0;

    private Due() {
    }

    static void is(String call, long got, long want) {
        calls++;
        if (got != want) {
            fail(call + " answered " + got + ", due is " + want);
        }
    }

    static void is(String call, char got, char want) {
        calls++;
        if (got != want) {
            fail(call + " answered " + got + ", due is " + want);
        }
    }

    static void is(String call, boolean got, boolean want) {
        calls++;
        if (got != want) {
            fail(call + " answered " + got + ", due is " + want);
        }
    }

    static void is(String call, double got, double want) {
        calls++;
        if (Double.compare(got, want) != 0) {
            fail(call + " answered " + got + ", due is " + want);
        }
    }

    static void outside(String call, Call made) {
        throwing(call, made, IndexOutOfBoundsException.class);
    }

    static void bad(String call, Call made) {
        throwing(call, made, IllegalArgumentException.class);
    }

    static void full(String call, Call made) {
        throwing(call, made, IllegalStateException.class);
    }

    static void missing(String call, Call made) {
        throwing(call, made, java.util.NoSuchElementException.class);
    }

    static void unsupported(String call, Call made) {
        throwing(call, made, UnsupportedOperationException.class);
    }

    static void empty(String call, Call made) {
        throwing(call, made, ArithmeticException.class);
    }

    /** The class is compared as it is: one below it, as the machine itself throws, is wrong too. */
    static void throwing(String call, Call made, Class<? extends RuntimeException> want) {
        calls++;
        try {
            made.make();
        } catch (RuntimeException e) {
            if (e.getClass() != want) {
                fail(call + " threw " + e + ", due is " + want.getName());
            }
            return;
        }
        fail(call + " threw nothing, due is " + want.getName());
    }

    static void fail(String text) {
        wrong++;
        if (wrong <= 50) {
            System.out.println(text);
        }
    }

    static void end() {
        System.out.println(calls + " answers looked at, " + wrong + " wrong");
        if (wrong > 0 || calls == 0) {
            System.exit(1);
        }
    }
}
