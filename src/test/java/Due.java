/** Counts and prints the answers that are not as due. */
final class Due {
    interface Call {
        long answer();
    }

    private static int checks = 0;
    private static int wrong = 0;

    private Due() {
    }

    static void is(String what, long want, long got) {
        checks++;
        if (got != want) {
            wrong++;
            System.out.println(what + " answered " + got + ", due is " + want);
        }
    }

    static void is(String what, boolean want, boolean got) {
        is(what, want ? 1 : 0, got ? 1 : 0);
    }

    static void same(String what, String want, String got) {
        checks++;
        if (!want.equals(got)) {
            wrong++;
            System.out.println(what + " answered " + got + ", due is " + want);
        }
    }

    static void refuses(String what, Class<? extends RuntimeException> want, Call call) {
        same(what, "throws." + want.getSimpleName(), told(call));
    }

    /** The answer, or the name of what the call throws. */
    static String told(Call call) {
        try {
            return Long.toString(call.answer());
        } catch (RuntimeException e) {
            return "throws." + e.getClass().getSimpleName();
        }
    }

    static void end(String test) {
        System.out.println(test + ": " + checks + " checks, " + wrong + " not as due");
        if (wrong != 0 || checks == 0) {
            System.exit(1);
        }
    }
}
