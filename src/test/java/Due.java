/** Counts the answers that are not the ones that are due, and prints each. */
final class Due {
    interface Call {
        long answer();
    }

    interface Deed {
        void run();
    }

    private String about = "";
    private int looked = 0;
    private int wrong = 0;

    /** What the answers from here on are about: a place of the document, and its words there. */
    void about(String place, String words) {
        about = place + ", '" + words + "': ";
    }

    void equal(String what, long got, long want) {
        equal(what, Long.toString(got), Long.toString(want));
    }

    void equal(String what, String got, String want) {
        looked++;
        if (!got.equals(want)) {
            wrong++;
            System.out.println(about + what + " answered " + got + ", due is " + want);
        }
    }

    void holds(String what, boolean got) {
        equal(what, Boolean.toString(got), "true");
    }

    void fails(String what, boolean got) {
        equal(what, Boolean.toString(got), "false");
    }

    /** The very class is due: a class below it, such as the machine's own, is wrong. */
    void thrown(String what, Class<? extends RuntimeException> want, Deed deed) {
        equal(what, outcome(() -> {
            deed.run();
            return 0;
        }), name(want));
    }

    static String outcome(Call call) {
        try {
            return Long.toString(call.answer());
        } catch (RuntimeException thrown) {
            return name(thrown.getClass());
        }
    }

    static String name(Class<?> thrown) {
        return "throws." + thrown.getSimpleName();
    }

    void end() {
        System.out.println(looked + " answers looked at, " + wrong + " wrong");
        if (wrong != 0 || looked == 0) {
            System.exit(1);
        }
    }
}
