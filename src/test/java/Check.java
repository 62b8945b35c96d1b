/** Counts what a test checks, tells what is wrong, and ends the test's program. */
final class Check {
    private static int right = 0;
    private static int wrong = 0;

    private Check() { }

    static void equal(String what, long got, long want) {
        note(got == want, what + " answered " + got + ", due is " + want);
    }

    static void isTrue(String what, boolean got) {
        note(got, what + " is not so");
    }

    static void index(String what, Runnable call) {
        throwsExactly(what, IndexOutOfBoundsException.class, call);
    }

    static void argument(String what, Runnable call) {
        throwsExactly(what, IllegalArgumentException.class, call);
    }

    static void state(String what, Runnable call) {
        throwsExactly(what, IllegalStateException.class, call);
    }

    private static void throwsExactly(String what, Class<?> want, Runnable call) {
        Class<?> got = null;
        try {
            call.run();
        } catch (RuntimeException e) {
            got = e.getClass();
            note(isOfTheDesk(e), what + " was thrown by the machine or the library");
        }
        note(got == want, what + " threw " + got + ", due is " + want);
    }

    /** Whether the desk itself has thrown it: then its code stands on top of the stack. */
    static boolean isOfTheDesk(RuntimeException e) {
        StackTraceElement[] stack = e.getStackTrace();
        return stack.length > 0 && stack[0].getClassName().equals("DividendDesk");
    }

    private static void note(boolean isRight, String fault) {
        if (isRight) {
            right++;
        } else {
            wrong++;
            System.out.println(fault);
        }
    }

    static void end(String test) {
        System.out.println(test + ": " + right + " checks right, " + wrong + " wrong");
        System.exit(wrong == 0 && right > 0 ? 0 : 1);
    }
}
