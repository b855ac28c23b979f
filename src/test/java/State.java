/** States in which calls are refused: each is made anew by the same calls, at most 100 of them. */
enum State {
    /** Nothing but the object. */
    NEW(0, 0, 0),
    /** Leaves and a day, but no proof yet. */
    UNPROVED(3, 1, 0),
    /** One leaf in one day, with its proof of no digests. */
    ONE(1, 1, 0),
    /** Days of 0, 3 and 7 leaves and a later leaf, a bent proof behind a longer one, two withdrawn, a tape begun. */
    MIDDLE(8, 3, 2),
    /** No room for a byte, a leaf or a day more, and the longest proof; the odd leaves are withdrawn. */
    FULL(24, 12, 5);

    private static final int[] FULL_COUNTS = {0, 1, 2, 3, 4, 5, 8, 9, 16, 17, 23, 24};

    final int leaves;
    final int days;
    final int proofLength;

    State(int leaves, int days, int proofLength) {
        this.leaves = leaves;
        this.days = days;
        this.proofLength = proofLength;
    }

    ProofLeaves make() {
        ProofLeaves x = new ProofLeaves();
        switch (this) {
            case UNPROVED -> {
                Sample.addLeaves(x, 3);
                x.close();
            }
            case ONE -> {
                Sample.addLeaves(x, 1);
                x.close();
                x.prove(0, 0);
            }
            case MIDDLE -> makeMiddle(x);
            case FULL -> makeFull(x);
            default -> { }
        }
        return x;
    }

    private static void makeMiddle(ProofLeaves x) {
        x.close();
        Sample.addLeaves(x, 3);
        x.close();
        Sample.addLeaves(x, 4);
        x.close();
        x.leaf();
        x.poke(1, 0, 1);
        x.prove(0, 2);
        x.prove(6, 2);
        x.bend(1, 31, 255);
        x.withdraw(2);
        x.withdraw(5);
        Sample.fillTape(x, 3);
    }

    private static void makeFull(ProofLeaves x) {
        int made = 0;
        for (int count : FULL_COUNTS) {
            Sample.addLeaves(x, count - made);
            made = count;
            x.close();
        }
        x.prove(0, 11);
        for (int leaf = 1; leaf < 24; leaf += 2) {
            x.withdraw(leaf);
        }
        for (int i = 0; i < 25; i++) {
            x.feed(i, 8);
        }
    }
}
