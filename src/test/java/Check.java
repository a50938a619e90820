/** Counts answers that are not as due; a test ends with finish(). */
final class Check {
    private static int wrong = 0;
    private static int asked = 0;

    private Check() {
    }

    static void same(String what, long got, long due) {
        asked++;
        if (got != due) {
            wrong++;
            System.out.println(what + " answered " + got + ", due is " + due);
        }
    }

    static void same(String what, String got, String due) {
        asked++;
        if (!got.equals(due)) {
            wrong++;
            System.out.println(what + " answered \"" + got + "\", due is \"" + due + "\"");
        }
    }

    static void refuses(String what, Runnable call) {
        throwsExactly(what, IllegalArgumentException.class, call);
    }

    static void isFull(String what, Runnable call) {
        throwsExactly(what, IllegalStateException.class, call);
    }

    private static void throwsExactly(String what, Class<?> due, Runnable call) {
        String got = "nothing";
        try {
            call.run();
        } catch (RuntimeException e) {
            got = e.getClass().getName();
        }
        same(what + " throws", got, due.getName());
    }

    static void finish() {
        System.out.println(asked - wrong + " of " + asked + " answers are as due");
        if (wrong != 0 || asked == 0) {
            System.exit(1);
        }
    }
}
