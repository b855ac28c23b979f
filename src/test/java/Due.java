/** Counts the answers that are not the ones that are due, and prints each. */
final class Due {
    interface Call {
        long answer();
    }

    interface Deed {
        void run();
    }

    private int looked = 0;
    private int wrong = 0;

    void equal(String what, long got, long want) {
        looked++;
        if (got != want) {
            wrong++;
            System.out.println(what + " answered " + got + ", due is " + want);
        }
    }

    void equal(String what, String got, String want) {
        looked++;
        if (!got.equals(want)) {
            wrong++;
            System.out.println(what + " answered " + got + ", due is " + want);
        }
    }

    /** The very class is due: a class below it, such as the machine's own, is wrong. */
    void thrown(String what, Class<? extends RuntimeException> want, Deed deed) {
        equal(what, outcome(() -> {
            deed.run();
            return 0;
        }), name(want));
    }

    static String outcome(Call call) {
        try {
            return Long.toString(call.answer());
        } catch (RuntimeException thrown) {
            return name(thrown.getClass());
        }
    }

    static String name(Class<?> thrown) {
        return "throws." + thrown.getSimpleName();
    }

    void end() {
        System.out.println(looked + " answers looked at, " + wrong + " wrong");
        if (wrong != 0 || looked == 0) {
            System.exit(1);
        }
    }
}
