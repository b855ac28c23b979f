/**
 * The boundary cases that promises 13 to 16 name, each sentence by a method of its own that bears
 * the promise and the sentence.
 */
public final class WithdrawalEdgeTest {
    /** States that have a leaf. */
    private static final State[] GROWN = {State.UNPROVED, State.ONE, State.MIDDLE, State.FULL};
    private static final String ORDER = "An index that is none throws the machine's own IndexOutOfBoundsException, "
            + "ahead of all else; then turn (not now): IllegalStateException; range: IllegalArgumentException";

    private final Due due = new Due();
    private final Refusals refusals = new Refusals(due);

    public static void main(String[] args) {
        WithdrawalEdgeTest test = new WithdrawalEdgeTest();
        test.promise13HowManyAre();
        test.promise13NoSuchLeaf();
        test.promise13ItIsAlready();
        test.promise14Side0BelowSide1Above();
        test.promise14None();
        test.promise14NoSuchLeaf();
        test.promise14NoSuchSide();
        test.promise14ItIsWithdrawn();
        test.promise14IndexAheadOfTurn();
        test.promise15ByteI();
        test.promise15NoSuchLeaf();
        test.promise15NoSuchByte();
        test.promise16Pokes();
        test.promise16NoSuchLeaf();
        test.promise16NoSuchByte();
        test.promise16RangeTheMask();
        test.promise16IndexAheadOfRange();
        test.due.end();
    }

    private void promise13HowManyAre() {
        due.about("Promise 13", "A leaf is withdrawn: how many are.");
        ProofLeaves x = Sample.withLeaves(24);
        due.equal("the last leaf first", x.withdraw(23), 1);
        for (int leaf = 0; leaf < 23; leaf++) {
            due.equal("leaf " + leaf, x.withdraw(leaf), leaf + 2);
        }
        ProofLeaves same = new ProofLeaves();
        same.leaf();
        same.leaf();
        due.equal("one of two of the same digest", same.withdraw(0), 1);
        due.equal("the other is another leaf", same.withdraw(1), 2);
        same.leaf();
        due.equal("a leaf that came behind them", same.withdraw(2), 3);
    }

    private void promise13NoSuchLeaf() {
        due.about("Promise 13", "Index: no such leaf");
        for (State state : State.values()) {
            for (int leaf : Refusals.outside(state.leaves)) {
                refusals.index(state, "withdraw(" + leaf + ")", x -> x.withdraw(leaf));
            }
        }
    }

    private void promise13ItIsAlready() {
        due.about("Promise 13", "meaning: it is already");
        refusals.meaning(State.MIDDLE, "withdraw(2)", x -> x.withdraw(2));
        refusals.meaning(State.MIDDLE, "withdraw(5)", x -> x.withdraw(5));
        refusals.meaning(State.FULL, "withdraw(1)", x -> x.withdraw(1));
        refusals.meaning(State.FULL, "withdraw(23)", x -> x.withdraw(23));
        ProofLeaves x = Sample.withLeaves(2);
        x.withdraw(0);
        x.poke(0, 0, 1);
        due.thrown("poked since", UnsupportedOperationException.class, () -> x.withdraw(0));
        due.equal("the refused one does not count", x.withdraw(1), 2);
    }

    private void promise14Side0BelowSide1Above() {
        due.about("Promise 14", "side 0 below, 1 above");
        ProofLeaves x = Sample.withDigests(new int[][] {{2, 0}, {1, 0}, {3, 0}});
        x.withdraw(1);
        x.withdraw(2);
        due.equal("side 0", x.absence(0, 0), 1);
        due.equal("side 1", x.absence(0, 1), 2);
        ProofLeaves zero = Sample.withDigests(new int[][] {{1, 0}, {2, 0}});
        zero.withdraw(0);
        due.equal("leaf 0 is a neighbour as any", zero.absence(1, 0), 0);
        ProofLeaves last = Sample.withLeaves(24);
        for (int i = 0; i < 32; i++) {
            Sample.setByte(last, 23, i, 255);
        }
        last.withdraw(23);
        due.equal("and so is leaf 23", last.absence(0, 1), 23);
    }

    private void promise14None() {
        due.about("Promise 14", "-1: none");
        for (State state : new State[] {State.UNPROVED, State.ONE}) {
            ProofLeaves x = state.make();
            for (int leaf = 0; leaf < state.leaves; leaf++) {
                due.equal("none withdrawn, below " + leaf, x.absence(leaf, 0), -1);
                due.equal("none withdrawn, above " + leaf, x.absence(leaf, 1), -1);
            }
        }
        ProofLeaves x = Sample.withDigests(new int[][] {{1, 0}, {1, 1}, {1, 2}});
        x.withdraw(0);
        x.withdraw(1);
        due.equal("all others below", x.absence(2, 1), -1);
        ProofLeaves y = Sample.withDigests(new int[][] {{1, 3}, {1, 1}, {1, 0}});
        y.withdraw(0);
        y.withdraw(1);
        due.equal("all others above", y.absence(2, 0), -1);
        due.equal("the nearest of them", y.absence(2, 1), 1);
    }

    private void promise14NoSuchLeaf() {
        due.about("Promise 14", "Index: no such leaf");
        for (State state : State.values()) {
            for (int leaf : Refusals.outside(state.leaves)) {
                refusals.index(state, "absence(" + leaf + ", 0)", x -> x.absence(leaf, 0));
                refusals.index(state, "absence(" + leaf + ", 1)", x -> x.absence(leaf, 1));
                refusals.index(state, "absence(" + leaf + ", 2)", x -> x.absence(leaf, 2));
            }
        }
    }

    private void promise14NoSuchSide() {
        due.about("Promise 14", "or side");
        for (State state : GROWN) {
            for (int side : Refusals.outside(2)) {
                refusals.index(state, "absence(0, " + side + ")", x -> x.absence(0, side));
            }
        }
    }

    private void promise14ItIsWithdrawn() {
        due.about("Promise 14", "turn: it is withdrawn");
        for (int side = 0; side < 2; side++) {
            int told = side;
            refusals.turn(State.MIDDLE, "absence(2, " + side + ")", x -> x.absence(2, told));
            refusals.turn(State.FULL, "absence(1, " + side + ")", x -> x.absence(1, told));
            refusals.turn(State.FULL, "absence(23, " + side + ")", x -> x.absence(23, told));
        }
        ProofLeaves x = new ProofLeaves();
        x.leaf();
        x.leaf();
        x.withdraw(0);
        due.equal("another leaf of its digest is not", x.absence(1, 0), -1);
        x.poke(0, 0, 1);
        due.thrown("poked since", IllegalStateException.class, () -> x.absence(0, 0));
    }

    private void promise14IndexAheadOfTurn() {
        due.about("Promise 14 and Terms", ORDER);
        for (int side : Refusals.outside(2)) {
            refusals.index(State.MIDDLE, "absence(2, " + side + "), withdrawn", x -> x.absence(2, side));
            refusals.index(State.FULL, "absence(23, " + side + "), withdrawn", x -> x.absence(23, side));
        }
    }

    private void promise15ByteI() {
        due.about("Promise 15", "Byte i of a leaf's mark.");
        ProofLeaves x = Sample.withLeaves(24);
        for (int leaf : new int[] {0, 23}) {
            byte[] digest = Model.leafDigest(new byte[] {(byte) leaf});
            byte[] mark = Model.sha(Model.eight(-2), Model.sha(Model.eight(-1), digest));
            due.equal("byte 0 of leaf " + leaf, x.mark(leaf, -1, -2, 0), mark[0] & 255);
            due.equal("byte 31 of leaf " + leaf, x.mark(leaf, -1, -2, 31), mark[31] & 255);
            x.withdraw(leaf);
            due.equal("of it withdrawn", x.mark(leaf, -1, -2, 31), mark[31] & 255);
        }
    }

    private void promise15NoSuchLeaf() {
        due.about("Promise 15", "Index: no such leaf");
        for (State state : State.values()) {
            for (int leaf : Refusals.outside(state.leaves)) {
                refusals.index(state, "mark(" + leaf + ", 1, 2, 0)", x -> x.mark(leaf, 1, 2, 0));
                refusals.index(state, "mark(" + leaf + ", 1, 2, 32)", x -> x.mark(leaf, 1, 2, 32));
            }
        }
    }

    private void promise15NoSuchByte() {
        due.about("Promise 15", "or byte.");
        for (State state : GROWN) {
            for (int i : Refusals.outside(32)) {
                refusals.index(state, "mark(0, 1, 2, " + i + ")", x -> x.mark(0, 1, 2, i));
                refusals.index(state, "mark(last, 1, 2, " + i + ")", x -> x.mark(state.leaves - 1, 1, 2, i));
            }
        }
    }

    private void promise16Pokes() {
        due.about("Promise 16", "Pokes.");
        for (int leaf : new int[] {0, 23}) {
            for (int i : new int[] {0, 31}) {
                ProofLeaves x = Sample.withLeaves(24);
                int before = x.digest(leaf, i);
                x.poke(leaf, i, 1);
                due.equal("by 1", x.digest(leaf, i), before ^ 1);
                x.poke(leaf, i, 255);
                due.equal("by 255 then", x.digest(leaf, i), before ^ 254);
                x.poke(leaf, i, 128);
                due.equal("by 128 then", x.digest(leaf, i), before ^ 126);
                x.poke(leaf, i, 126);
                due.equal("poked back", Sample.leafHex(x, leaf),
                        Sample.hex(Model.leafDigest(new byte[] {(byte) leaf})));
                due.equal("others stay", Sample.leafHex(x, 12), Sample.hex(Model.leafDigest(new byte[] {12})));
            }
        }
        ProofLeaves x = State.MIDDLE.make();
        int before = x.digest(2, 0);
        x.poke(2, 0, 255);
        due.equal("a withdrawn leaf too", x.digest(2, 0), before ^ 255);
        due.equal("and it stays withdrawn", x.withdraw(0), 3);
        String root = Sample.rootHex(x, 1);
        x.poke(0, 0, 255);
        due.equal("days' roots stay", Sample.rootHex(x, 1), root);
        due.equal("days' counts stay", x.count(1), 3);
    }

    private void promise16NoSuchLeaf() {
        due.about("Promise 16", "Index: no such leaf");
        for (State state : State.values()) {
            for (int leaf : Refusals.outside(state.leaves)) {
                refusals.index(state, "poke(" + leaf + ", 0, 1)", x -> x.poke(leaf, 0, 1));
            }
        }
    }

    private void promise16NoSuchByte() {
        due.about("Promise 16", "or byte; range");
        for (State state : GROWN) {
            for (int i : Refusals.outside(32)) {
                refusals.index(state, "poke(0, " + i + ", 1)", x -> x.poke(0, i, 1));
                refusals.index(state, "poke(last, " + i + ", 255)", x -> x.poke(state.leaves - 1, i, 255));
            }
        }
    }

    private void promise16RangeTheMask() {
        due.about("Promise 16", "range: the mask (1 .. 255)");
        for (State state : GROWN) {
            for (int mask : Refusals.NO_MASKS) {
                refusals.range(state, "poke(0, 0, " + mask + ")", x -> x.poke(0, 0, mask));
                refusals.range(state, "poke(last, 31, " + mask + ")", x -> x.poke(state.leaves - 1, 31, mask));
            }
        }
    }

    private void promise16IndexAheadOfRange() {
        due.about("Promise 16 and Terms", ORDER);
        for (int mask : new int[] {0, 256, Integer.MIN_VALUE}) {
            refusals.index(State.NEW, "poke(0, 0, " + mask + ")", x -> x.poke(0, 0, mask));
            refusals.index(State.MIDDLE, "poke(8, 0, " + mask + ")", x -> x.poke(8, 0, mask));
            refusals.index(State.MIDDLE, "poke(0, 32, " + mask + ")", x -> x.poke(0, 32, mask));
            refusals.index(State.FULL, "poke(-1, -1, " + mask + ")", x -> x.poke(-1, -1, mask));
        }
    }
}
