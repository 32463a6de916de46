/** Counts the answers that are not the ones that are due, prints them, and ends with 1 if there was one. */
final class Check {
    interface Call {
        void make();
    }

    private static int made = 0;
    private static int wrong = 0;
    private static String about = "";

    private Check() {
    }

    /** What the answers from now on are for; it is printed before those that are not as due. */
    static void about(String sentence) {
        about = sentence.isEmpty() ? "" : sentence + "\n    ";
    }

    static int made() {
        return made;
    }

    static void due(String what, long got, long want) {
        made++;
        if (got != want) {
            wrong++;
            System.out.println(about + what + " answered " + got + " (0x" + Long.toHexString(got) + "), due is "
                + want + " (0x" + Long.toHexString(want) + ")");
        }
    }

    static void due(String what, boolean got) {
        due(what, got ? 1 : 0, 1);
    }

    static void dueThrow(String what, Class<? extends RuntimeException> want, Call call) {
        made++;
        String got = "nothing";
        try {
            call.make();
        } catch (RuntimeException e) {
            got = e.getClass().getName();
        }
        if (!got.equals(want.getName())) {
            wrong++;
            System.out.println(about + what + " threw " + got + ", due is " + want.getName());
        }
    }

    static void dueIllegalArgument(String what, Call call) {
        dueThrow(what, IllegalArgumentException.class, call);
    }

    static void dueIllegalState(String what, Call call) {
        dueThrow(what, IllegalStateException.class, call);
    }

    static void dueNoSuchElement(String what, Call call) {
        dueThrow(what, java.util.NoSuchElementException.class, call);
    }

    static void end() {
        System.out.println(made + " answers, " + wrong + " not as due");
        if (wrong != 0 || made == 0) {
            System.exit(1);
        }
    }
}
