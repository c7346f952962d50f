/** Counts answers that are not as due; every test program ends with finish(). */
final class Check {
    interface Call {
        void run();
    }

    private static int checks = 0;
    private static int wrong = 0;

    private Check() {
    }

    static void due(String what, long got, long want) {
        checks++;
        if (got != want) {
            wrong++;
            System.out.println(what + " answered " + got + ", due is " + want);
        }
    }

    static void due(String what, boolean got, boolean want) {
        due(what, got ? 1 : 0, want ? 1 : 0);
    }

    static void throwing(String what, Class<? extends RuntimeException> want, Call call) {
        checks++;
        RuntimeException got = null;
        try {
            call.run();
        } catch (RuntimeException e) {
            got = e;
        }
        if (got == null || got.getClass() != want) {
            wrong++;
            System.out.println(what + " threw " + got + ", due is " + want.getName());
        } else if (!writtenByUs(got)) {
            wrong++;
            System.out.println(what + " was thrown by the machine: " + got);
        }
    }

    /** The machine's own texts, or none, are not among those that the class throws with. */
    static boolean writtenByUs(RuntimeException e) {
        String text = String.valueOf(e.getMessage());
        return text.startsWith("no such ") || text.equals("no point to draw a line from") || text.equals("the path is full");
    }

    static void finish() {
        System.out.println(checks + " checks, " + wrong + " wrong");
        if (wrong != 0) {
            System.exit(1);
        }
    }
}
