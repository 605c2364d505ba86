/** Counts the answers of one test that are as due and those that are not, and prints the latter. */
final class Check {
    private static int right = 0;
    private static int wrong = 0;

    interface Call {
        long run();
    }

    private Check() {
    }

    static void due(String call, long got, long want) {
        if (got == want) {
            right++;
        } else {
            wrong++;
            System.out.println(call + " answered " + got + ", due is " + want);
        }
    }

    static void due(String call, boolean got, boolean want) {
        due(call, got ? 1L : 0L, want ? 1L : 0L);
    }

    static void same(String call, String got, String want) {
        if (got.equals(want)) {
            right++;
        } else {
            wrong++;
            System.out.println(call + " was\n  " + got + "\ndue is\n  " + want);
        }
    }

    /** The call has to throw just this class of exception, no other and none below it. */
    static void throwsDue(String name, Class<? extends RuntimeException> want, Call call) {
        String got = "nothing";
        try {
            call.run();
        } catch (RuntimeException thrown) {
            got = thrown.getClass().getName();
        }
        same(name + " throws", got, want.getName());
    }

    /** Ends the test: exit code 1 if an answer was not as due, or if none was looked at. */
    static void end(String test) {
        System.out.println(test + ": " + right + " as due, " + wrong + " not as due");
        if (wrong != 0 || right == 0) {
            System.exit(1);
        }
    }
}
