/** A refused call throws the very exception that is due, and nothing has changed behind it. */
final class Refusals {
    interface Deed {
        void on(ProofLeaves x);
    }

    static final int[] NO_MASKS = {0, -1, 256, 257, -255, 65537, Integer.MIN_VALUE, Integer.MAX_VALUE};

    private final Due due;

    Refusals(Due due) {
        this.due = due;
    }

    /** Numbers that are none of 0 .. n - 1, those among them that would be if cut to a byte or a short. */
    static int[] outside(int n) {
        return new int[] {-1, n, n + 1, -n - 1, 256, -256, 65536, Integer.MIN_VALUE, Integer.MAX_VALUE};
    }

    void index(State state, String call, Deed deed) {
        refused(state, IndexOutOfBoundsException.class, call, deed);
    }

    void turn(State state, String call, Deed deed) {
        refused(state, IllegalStateException.class, call, deed);
    }

    void range(State state, String call, Deed deed) {
        refused(state, IllegalArgumentException.class, call, deed);
    }

    void meaning(State state, String call, Deed deed) {
        refused(state, UnsupportedOperationException.class, call, deed);
    }

    // Once only: a change that a second refused call takes back, as of an xor, would not be seen.
    private void refused(State state, Class<? extends RuntimeException> want, String call, Deed deed) {
        for (Probe probe : Probe.values()) {
            ProofLeaves x = state.make();
            due.thrown(state + ": " + call, want, () -> deed.on(x));
            due.equal(state + ": " + probe + " behind " + call, probe.look(x), probe.look(state.make()));
        }
    }
}
