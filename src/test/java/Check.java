/** What every test counts and tells with. */
final class Check {
    private static int checks;
    private static int failures;

    private Check() {
    }

    static void same(String what, long due, long got) {
        same(what, Long.toString(due), Long.toString(got));
    }

    static void same(String what, String due, String got) {
        checks++;
        if (!due.equals(got)) {
            failures++;
            System.out.println(what + ": due " + due + ", but it is " + got);
            StackTraceElement[] trace = new Throwable().getStackTrace();
            for (int i = 1; i < trace.length; i++) {
                System.out.println("    " + trace[i]);
            }
        }
    }

    static void yes(String what, boolean holds) {
        same(what, "true", holds ? "true" : "false");
    }

    /** The call must throw exactly this class, none below it. */
    static void refuses(Class<? extends RuntimeException> due, Runnable call) {
        String got = "nothing";
        try {
            call.run();
        } catch (RuntimeException e) {
            got = e.getClass().getName();
        }
        same("the call throws", due.getName(), got);
    }

    static void end() {
        System.out.println(checks + " checks, " + failures + " wrong");
        if (failures > 0) {
            System.exit(1);
        }
    }
}
