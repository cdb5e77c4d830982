/** Counts answers that are not as due, and prints them. */
final class Check {
    interface Call {
        long answer();
    }

    private static int wrong = 0;
    private static int made = 0;
    private static String about = "";

    private Check() {
    }

    static void due(String what, long got, long want) {
        made++;
        if (got != want) {
            tell(what + " answered " + got + ", due is " + want);
        }
    }

    static void due(String what, boolean got, boolean want) {
        due(what, got ? 1 : 0, want ? 1 : 0);
    }

    /** The class must be the very one: an ArrayIndexOutOfBoundsException is the machine's, not the document's. */
    static void thrown(String what, Class<? extends RuntimeException> want, Call call) {
        made++;
        try {
            tell(what + " answered " + call.answer() + ", due is " + want.getSimpleName());
        } catch (RuntimeException e) {
            if (e.getClass() != want) {
                tell(what + " threw " + e + ", due is " + want.getSimpleName());
            }
        }
    }

    static void same(String what, String got, String want) {
        made++;
        if (!got.equals(want)) {
            tell(what + ": answered\n" + got + "\ndue is\n" + want);
        }
    }

    /** What the next faults break. */
    static void about(String words) {
        about = words;
    }

    static int made() {
        return made;
    }

    static void tell(String fault) {
        wrong++;
        if (wrong <= 40) {
            System.out.println((about.isEmpty() ? "" : about + ": ") + fault);
        }
    }

    static boolean isClean() {
        return wrong == 0;
    }

    static void end() {
        System.out.println(made + " checks, " + wrong + " wrong");
        if (wrong != 0 || made == 0) {
            System.exit(1);
        }
    }
}
