/** What every test counts and tells with. */
final class Check {
    private static int checks;
    private static int failures;
    /** The document's sentence that is being looked at, and where its checks began. */
    private static String sentence = "";
    private static int begun;

    private Check() {
    }

    /** What follows looks at this sentence of the document; one without a check is a failure too. */
    static void about(String words) {
        closeSentence();
        sentence = words;
        begun = checks;
    }

    private static void closeSentence() {
        if (!sentence.isEmpty() && checks == begun) {
            failures++;
            System.out.println("nothing was looked at for: " + sentence);
        }
    }

    static void same(String what, long due, long got) {
        same(what, Long.toString(due), Long.toString(got));
    }

    static void same(String what, String due, String got) {
        checks++;
        if (!due.equals(got)) {
            failures++;
            if (!sentence.isEmpty()) {
                System.out.println("\"" + sentence + "\"");
            }
            System.out.println(what + ": due " + due + ", but it is " + got);
            StackTraceElement[] trace = new Throwable().getStackTrace();
            for (int i = 1; i < trace.length; i++) {
                System.out.println("    " + trace[i]);
            }
        }
    }

    static void yes(String what, boolean holds) {
        same(what, "true", holds ? "true" : "false");
    }

    /** The call must throw exactly this class, none below it. */
    static void refuses(Class<? extends RuntimeException> due, Runnable call) {
        String got = "nothing";
        try {
            call.run();
        } catch (RuntimeException e) {
            got = e.getClass().getName();
        }
        same("the call throws", due.getName(), got);
    }

    static void end() {
        closeSentence();
        System.out.println(checks + " checks, " + failures + " wrong");
        if (failures > 0) {
            System.exit(1);
        }
    }
}
