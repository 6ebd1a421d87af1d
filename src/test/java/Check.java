/** Counts and prints what is not as due; each test ends with done(). */
final class Check {
    static final Class<?> STATE = IllegalStateException.class;
    static final Class<?> ARGUMENT = IllegalArgumentException.class;
    static final Class<?> INDEX = IndexOutOfBoundsException.class;

    private static int looked = 0;
    private static int wrong = 0;

    interface Call {
        Object run();
    }

    interface CallWith {
        Object run(int value);
    }

    private Check() {
    }

    static void is(String what, Object got, Object due) {
        looked++;
        if (!got.equals(due)) {
            wrong++;
            System.out.println(what + ": got " + got + ", due is " + due);
        }
    }

    /** The very class, as the machine's own exceptions are subclasses of those that are due. */
    static void throwsJust(String what, Class<?> due, Call call) {
        Object got;
        try {
            got = call.run();
        } catch (RuntimeException e) {
            got = e.getClass();
        }
        is(what, got, due);
    }

    /** Each of these values in turn, and the least and the greatest int, which are never allowed where this is used. */
    static void refuses(String what, Class<?> due, CallWith call, int... values) {
        for (int value : values) {
            throwsJust(what + " " + value, due, () -> call.run(value));
        }
        throwsJust(what + " least int", due, () -> call.run(Integer.MIN_VALUE));
        throwsJust(what + " greatest int", due, () -> call.run(Integer.MAX_VALUE));
    }

    static void done() {
        System.out.println((looked - wrong) + " passed, " + wrong + " failed");
        if (wrong != 0) {
            System.exit(1);
        }
    }
}
