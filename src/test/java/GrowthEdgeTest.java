import java.util.Arrays;

/**
 * The boundary cases that promises 1 to 7 name, each sentence by a method of its own that bears the
 * promise and the sentence.
 */
public final class GrowthEdgeTest {
    private final Due due = new Due();
    private final Refusals refusals = new Refusals(due);

    public static void main(String[] args) {
        GrowthEdgeTest test = new GrowthEdgeTest();
        test.promise1NoLeaves();
        test.promise1NoDays();
        test.promise1AnEmptyTape();
        test.promise2LowestNOfEight();
        test.promise2HowManyItHas();
        test.promise2RangeN();
        test.promise2MoreThan200();
        test.promise2RangeAheadOfMeaning();
        test.promise3ItsNumber();
        test.promise3ThereAre24();
        test.promise3TheTapeStays();
        test.promise4ItsNumber();
        test.promise4ThereAre12();
        test.promise5ByteI();
        test.promise5NoSuchDay();
        test.promise5NoSuchByte();
        test.promise6ByteI();
        test.promise6NoSuchLeaf();
        test.promise6NoSuchByte();
        test.promise7HowManyLeaves();
        test.promise7NoSuchDay();
        test.due.end();
    }

    private void promise1NoLeaves() {
        due.about("Promise 1", "No leaves");
        refusals.index(State.NEW, "digest(0, 0)", x -> x.digest(0, 0));
        refusals.index(State.NEW, "withdraw(0)", x -> x.withdraw(0));
        refusals.index(State.NEW, "absence(0, 0)", x -> x.absence(0, 0));
        refusals.index(State.NEW, "mark(0, 0, 0, 0)", x -> x.mark(0, 0, 0, 0));
        refusals.index(State.NEW, "poke(0, 0, 1)", x -> x.poke(0, 0, 1));
        due.equal("the first leaf's number", new ProofLeaves().leaf(), 0);
        ProofLeaves x = new ProofLeaves();
        x.close();
        due.equal("a day's count", x.count(0), 0);
        due.thrown("no leaf on a day", IndexOutOfBoundsException.class, () -> x.prove(0, 0));
        due.thrown("no leaf to check", IndexOutOfBoundsException.class, () -> x.check(0, 0, 0, 1));
        x.leaf();
        due.equal("no leaf was withdrawn", x.withdraw(0), 1);
    }

    private void promise1NoDays() {
        due.about("Promise 1", "no days");
        refusals.index(State.NEW, "root(0, 0)", x -> x.root(0, 0));
        refusals.index(State.NEW, "count(0)", x -> x.count(0));
        refusals.index(State.NEW, "grew(0, 0)", x -> x.grew(0, 0));
        refusals.index(State.NEW, "prove(0, 0)", x -> x.prove(0, 0));
        refusals.index(State.NEW, "check(0, 0, 0, 1)", x -> x.check(0, 0, 0, 1));
        due.equal("the first day's number", new ProofLeaves().close(), 0);
        ProofLeaves x = Sample.withLeaves(1);
        due.thrown("no day for a leaf", IndexOutOfBoundsException.class, () -> x.prove(0, 0));
        due.thrown("no day to check", IndexOutOfBoundsException.class, () -> x.check(0, 0, 0, 1));
    }

    private void promise1AnEmptyTape() {
        due.about("Promise 1", "an empty tape");
        due.equal("a byte is the first", new ProofLeaves().feed(7, 1), 1);
        ProofLeaves x = new ProofLeaves();
        x.leaf();
        due.equal("a leaf of no bytes", Sample.leafHex(x, 0), Sample.OF_EMPTY_LEAF);
        ProofLeaves full = State.FULL.make();
        due.equal("whatever another object holds", new ProofLeaves().feed(7, 8), 8);
        due.equal("that one's digest stays", full.digest(23, 31), State.FULL.make().digest(23, 31));
    }

    private void promise2LowestNOfEight() {
        due.about("Promise 2", "the lowest n of eight (1 .. 8), the highest of these first");
        for (long bytes : new long[] {0x8182838485868788L, 0x0102030405060708L, -1, 0, 1, -256, 1L << 8,
                Long.MIN_VALUE, Long.MAX_VALUE, 0xffffffffL, 1L << 32}) {
            for (int n = 1; n <= 8; n++) {
                ProofLeaves x = new ProofLeaves();
                x.feed(bytes, n);
                x.leaf();
                byte[] told = Arrays.copyOfRange(Model.eight(bytes), 8 - n, 8);
                due.equal("feed(" + bytes + ", " + n + ")", Sample.leafHex(x, 0), Sample.hex(Model.leafDigest(told)));
            }
        }
    }

    private void promise2HowManyItHas() {
        due.about("Promise 2", "how many it has");
        for (int n = 1; n <= 8; n++) {
            ProofLeaves x = new ProofLeaves();
            due.equal("the first " + n, x.feed(0, n), n);
            due.equal(n + " and one", x.feed(0, 1), n + 1);
        }
        ProofLeaves x = State.MIDDLE.make();
        due.equal("none for leaves or days", x.feed(0, 2), 5);
    }

    private void promise2RangeN() {
        due.about("Promise 2", "Range: n");
        int[] none = {0, 9, -1, -8, 10, 16, 256, 257, 264, 65537, Integer.MIN_VALUE, Integer.MIN_VALUE + 1,
            Integer.MAX_VALUE};
        for (int n : none) {
            for (State state : State.values()) {
                refusals.range(state, "feed(-1, " + n + ")", x -> x.feed(-1, n));
            }
        }
        due.equal("1 is the least", new ProofLeaves().feed(-1, 1), 1);
        due.equal("8 is the greatest", new ProofLeaves().feed(-1, 8), 8);
    }

    private void promise2MoreThan200() {
        due.about("Promise 2", "meaning: there would be more than 200");
        for (int n = 1; n <= 8; n++) {
            int more = n;
            ProofLeaves x = new ProofLeaves();
            Sample.fillTape(x, 201 - n);
            due.thrown(201 - n + " bytes and " + n, UnsupportedOperationException.class, () -> x.feed(-1, more));
            x.leaf();
            due.equal(201 - n + " bytes stay behind it", Sample.leafHex(x, 0),
                    Sample.hex(Model.leafDigest(Sample.tapeBytes(201 - n))));
            ProofLeaves y = new ProofLeaves();
            Sample.fillTape(y, 200 - n);
            due.equal(200 - n + " bytes and " + n, y.feed(-1, n), 200);
            refusals.meaning(State.FULL, "feed(-1, " + n + ")", z -> z.feed(-1, more));
        }
    }

    private void promise2RangeAheadOfMeaning() {
        due.about("Promise 2 and Terms", "then turn (not now): IllegalStateException; range: IllegalArgumentException; "
                + "meaning (no room, what is so already): UnsupportedOperationException");
        for (int n : new int[] {0, 9, -1, Integer.MIN_VALUE, Integer.MAX_VALUE}) {
            refusals.range(State.FULL, "feed(0, " + n + ") on a full tape", x -> x.feed(0, n));
        }
    }

    private void promise3ItsNumber() {
        due.about("Promise 3", "The tape becomes a leaf: its number.");
        due.equal("of an empty tape", new ProofLeaves().leaf(), 0);
        ProofLeaves x = new ProofLeaves();
        Sample.fillTape(x, 200);
        due.equal("of a full tape", x.leaf(), 0);
        for (int leaf = 1; leaf < 24; leaf++) {
            due.equal("one behind the other", x.leaf(), leaf);
        }
        ProofLeaves y = new ProofLeaves();
        for (int day = 0; day < 12; day++) {
            y.close();
        }
        due.equal("though there are 12 days", y.leaf(), 0);
    }

    private void promise3ThereAre24() {
        due.about("Promise 3", "Meaning: there are 24");
        refusals.meaning(State.FULL, "leaf()", x -> x.leaf());
        ProofLeaves x = Sample.withLeaves(23);
        due.equal("there are 23", x.leaf(), 23);
        due.thrown("there are 24, the tape empty", UnsupportedOperationException.class, x::leaf);
        x.withdraw(0);
        due.thrown("there are 24, one withdrawn", UnsupportedOperationException.class, x::leaf);
        due.thrown("no leaf came of it", IndexOutOfBoundsException.class, () -> x.digest(24, 0));
        x.close();
        due.equal("nor counts on a day", x.count(0), 24);
    }

    private void promise3TheTapeStays() {
        due.about("Promise 3", "(the tape stays)");
        for (int bytes : new int[] {0, 1, 8, 199}) {
            ProofLeaves x = Sample.withLeaves(24);
            Sample.fillTape(x, bytes);
            due.thrown("leaf() with " + bytes, UnsupportedOperationException.class, x::leaf);
            due.equal(bytes + " and one", x.feed(0, 1), bytes + 1);
        }
        ProofLeaves x = Sample.withLeaves(24);
        Sample.fillTape(x, 200);
        due.thrown("leaf() with 200", UnsupportedOperationException.class, x::leaf);
        due.thrown("200 and one", UnsupportedOperationException.class, () -> x.feed(0, 1));
    }

    private void promise4ItsNumber() {
        due.about("Promise 4", "A day is closed: its number.");
        ProofLeaves x = Sample.withLeaves(24);
        Sample.fillTape(x, 200);
        for (int day = 0; day < 12; day++) {
            due.equal("though there are 24 leaves and 200 bytes", x.close(), day);
        }
        ProofLeaves y = new ProofLeaves();
        due.equal("of no leaves", y.close(), 0);
        due.equal("of no leaves again", y.close(), 1);
        ProofLeaves z = new ProofLeaves();
        z.feed(1, 8);
        z.close();
        due.equal("the tape is not used up by it", z.feed(1, 1), 9);
    }

    private void promise4ThereAre12() {
        due.about("Promise 4", "Meaning: there are 12.");
        refusals.meaning(State.FULL, "close()", x -> x.close());
        ProofLeaves x = new ProofLeaves();
        for (int day = 0; day < 11; day++) {
            x.close();
        }
        due.equal("there are 11", x.close(), 11);
        due.thrown("there are 12, no leaves", UnsupportedOperationException.class, x::close);
        x.leaf();
        due.thrown("there are 12, a leaf more", UnsupportedOperationException.class, x::close);
        due.equal("the last day's count stays", x.count(11), 0);
        due.equal("the last day's root stays", Sample.rootHex(x, 11), Sample.OF_NO_BYTES);
        due.thrown("no day came of it", IndexOutOfBoundsException.class, () -> x.count(12));
    }

    private void promise5ByteI() {
        due.about("Promise 5", "Byte i of a day's root.");
        ProofLeaves x = State.FULL.make();
        due.equal("byte 0 of day 0", x.root(0, 0), 0xe3);
        due.equal("byte 31 of day 0", x.root(0, 31), 0x55);
        byte[] last = Model.tree(Sample.firstLeaves(x, 1));
        due.equal("byte 0 of day 1", x.root(1, 0), last[0] & 255);
        due.equal("byte 31 of day 1", x.root(1, 31), last[31] & 255);
        ProofLeaves y = Sample.withLeaves(24);
        for (int day = 0; day < 12; day++) {
            y.close();
        }
        byte[] whole = Model.tree(Sample.plainLeaves(24));
        due.equal("byte 0 of day 11", y.root(11, 0), whole[0] & 255);
        due.equal("byte 31 of day 11", y.root(11, 31), whole[31] & 255);
    }

    private void promise5NoSuchDay() {
        due.about("Promise 5", "Index: no such day");
        for (State state : State.values()) {
            for (int day : Refusals.outside(state.days)) {
                refusals.index(state, "root(" + day + ", 0)", x -> x.root(day, 0));
                refusals.index(state, "root(" + day + ", 32)", x -> x.root(day, 32));
            }
        }
    }

    private void promise5NoSuchByte() {
        due.about("Promise 5", "or byte (0 .. 31)");
        for (State state : new State[] {State.ONE, State.MIDDLE, State.FULL}) {
            for (int i : Refusals.outside(32)) {
                refusals.index(state, "root(0, " + i + ")", x -> x.root(0, i));
                refusals.index(state, "root(last, " + i + ")", x -> x.root(state.days - 1, i));
            }
        }
    }

    private void promise6ByteI() {
        due.about("Promise 6", "Byte i of a leaf's digest.");
        ProofLeaves x = Sample.withLeaves(24);
        for (int leaf : new int[] {0, 23}) {
            byte[] digest = Model.leafDigest(new byte[] {(byte) leaf});
            due.equal("byte 0 of leaf " + leaf, x.digest(leaf, 0), digest[0] & 255);
            due.equal("byte 31 of leaf " + leaf, x.digest(leaf, 31), digest[31] & 255);
        }
        x.withdraw(23);
        due.equal("of a withdrawn leaf", x.digest(23, 31), Model.leafDigest(new byte[] {23})[31] & 255);
    }

    private void promise6NoSuchLeaf() {
        due.about("Promise 6", "Index: no such leaf");
        for (State state : State.values()) {
            for (int leaf : Refusals.outside(state.leaves)) {
                refusals.index(state, "digest(" + leaf + ", 0)", x -> x.digest(leaf, 0));
                refusals.index(state, "digest(" + leaf + ", 32)", x -> x.digest(leaf, 32));
            }
        }
    }

    private void promise6NoSuchByte() {
        due.about("Promise 6", "or byte.");
        for (State state : new State[] {State.ONE, State.MIDDLE, State.FULL}) {
            for (int i : Refusals.outside(32)) {
                refusals.index(state, "digest(0, " + i + ")", x -> x.digest(0, i));
                refusals.index(state, "digest(last, " + i + ")", x -> x.digest(state.leaves - 1, i));
            }
        }
    }

    private void promise7HowManyLeaves() {
        due.about("Promise 7", "How many leaves a day has.");
        int[] counts = {0, 1, 2, 3, 4, 5, 8, 9, 16, 17, 23, 24};
        ProofLeaves x = State.FULL.make();
        for (int day = 0; day < 12; day++) {
            due.equal("count(" + day + ")", x.count(day), counts[day]);
        }
        due.equal("a leaf behind the last day is not in it", State.MIDDLE.make().count(2), 7);
    }

    private void promise7NoSuchDay() {
        due.about("Promise 7", "Index: no such day.");
        for (State state : State.values()) {
            for (int day : Refusals.outside(state.days)) {
                refusals.index(state, "count(" + day + ")", x -> x.count(day));
            }
        }
    }
}
