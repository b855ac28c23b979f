/**
 * The boundary cases that promises 8 to 12 name, each sentence by a method of its own that bears the
 * promise and the sentence.
 */
public final class ProofEdgeTest {
    /** States whose latest proof has a digest. */
    private static final State[] PROVED = {State.MIDDLE, State.FULL};
    private static final String ORDER = "An index that is none throws the machine's own IndexOutOfBoundsException, "
            + "ahead of all else; then turn (not now): IllegalStateException; range: IllegalArgumentException";

    private final Due due = new Due();
    private final Refusals refusals = new Refusals(due);

    public static void main(String[] args) {
        ProofEdgeTest test = new ProofEdgeTest();
        test.promise8HowManyDigests();
        test.promise8AsLeavesStandNow();
        test.promise8NoSuchLeafOrDay();
        test.promise8TheLeafCameLater();
        test.promise8IndexAheadOfTurn();
        test.promise9OfTheLatestProof();
        test.promise9NoSuchDigest();
        test.promise9NoSuchByte();
        test.promise10XoredByAMask();
        test.promise10NoSuchDigest();
        test.promise10NoSuchByte();
        test.promise10RangeTheMask();
        test.promise10IndexAheadOfRange();
        test.promise11Right();
        test.promise11TheCountIsNotTheDays();
        test.promise11AnotherLength();
        test.promise11AnotherRoot();
        test.promise11NoSuchLeafOrDay();
        test.promise11ThereIsNoProof();
        test.promise11TheNumberTold();
        test.promise11IndexAheadOfTurnAheadOfRange();
        test.promise12FirstLeavesAndAllItsOwn();
        test.promise12OfNoLeavesAndTheSameDay();
        test.promise12NoSuchDays();
        test.promise12TheFirstIsLater();
        test.promise12IndexAheadOfRange();
        test.due.end();
    }

    /** One day of n leaves, and the proof of one of them there. */
    private static ProofLeaves proved(int leaf, int n) {
        ProofLeaves x = Sample.withLeaves(n);
        x.close();
        x.prove(leaf, 0);
        return x;
    }

    private void promise8HowManyDigests() {
        due.about("Promise 8", "how many digests");
        int[][] leafCountDigests = {{0, 1, 0}, {0, 2, 1}, {1, 2, 1}, {0, 3, 2}, {2, 3, 1}, {0, 4, 2}, {3, 4, 2},
            {0, 5, 3}, {4, 5, 1}, {6, 7, 2}, {0, 8, 3}, {8, 9, 1}, {0, 16, 4}, {15, 16, 4}, {0, 17, 5}, {16, 17, 1},
            {0, 24, 5}, {15, 24, 5}, {16, 24, 4}, {23, 24, 4}};
        for (int[] told : leafCountDigests) {
            ProofLeaves x = Sample.withLeaves(told[1]);
            x.close();
            due.equal("leaf " + told[0] + " of " + told[1], x.prove(told[0], 0), told[2]);
        }
        ProofLeaves x = State.FULL.make();
        due.equal("leaf 0 on the last day", x.prove(0, 11), 5);
        due.equal("leaf 0 on its first day", x.prove(0, 1), 0);
        due.equal("the last leaf on the last day", x.prove(23, 11), 4);
    }

    private void promise8AsLeavesStandNow() {
        due.about("Promise 8", "(as leaves stand now)");
        ProofLeaves x = proved(2, 3);
        String before = Sample.proofHex(x, 0);
        x.poke(1, 31, 128);
        due.equal("the proof made before a poke stays", Sample.proofHex(x, 0), before);
        x.prove(2, 0);
        due.equal("the one made behind it is of poked leaves", Sample.proofHex(x, 0),
                Sample.hex(Model.node(Sample.leafBytes(x, 0), Sample.leafBytes(x, 1))));
        due.equal("and makes another root than the day's", x.check(2, 0, 2, 3), 3);
        x.poke(1, 31, 128);
        x.prove(2, 0);
        due.equal("poked back", Sample.proofHex(x, 0), before);
        x.poke(2, 0, 1);
        x.prove(2, 0);
        due.equal("the leaf's own digest is not in its proof", Sample.proofHex(x, 0), before);
    }

    private void promise8NoSuchLeafOrDay() {
        due.about("Promise 8", "Index: no such leaf or day");
        for (State state : State.values()) {
            for (int leaf : Refusals.outside(state.leaves)) {
                refusals.index(state, "prove(" + leaf + ", last)", x -> x.prove(leaf, state.days - 1));
            }
            for (int day : Refusals.outside(state.days)) {
                refusals.index(state, "prove(0, " + day + ")", x -> x.prove(0, day));
                refusals.index(state, "prove(next, " + day + ")", x -> x.prove(state.leaves, day));
            }
        }
    }

    private void promise8TheLeafCameLater() {
        due.about("Promise 8", "turn: the leaf came later");
        refusals.turn(State.MIDDLE, "prove(0, 0), a day of no leaves", x -> x.prove(0, 0));
        refusals.turn(State.MIDDLE, "prove(7, 0)", x -> x.prove(7, 0));
        refusals.turn(State.MIDDLE, "prove(3, 1), the first behind it", x -> x.prove(3, 1));
        refusals.turn(State.MIDDLE, "prove(7, 2), a leaf of no day", x -> x.prove(7, 2));
        refusals.turn(State.FULL, "prove(23, 10)", x -> x.prove(23, 10));
        refusals.turn(State.FULL, "prove(1, 1)", x -> x.prove(1, 1));
        due.equal("the last before it did not", State.MIDDLE.make().prove(2, 1), 1);
        due.equal("nor did the last of all", State.FULL.make().prove(22, 10), 3);

        ProofLeaves x = State.UNPROVED.make();
        x.leaf();
        due.thrown("no proof yet", IllegalStateException.class, () -> x.prove(3, 0));
        due.thrown("none came of it", IllegalStateException.class, () -> x.check(0, 0, 0, 3));
        due.thrown("nor a digest", IndexOutOfBoundsException.class, () -> x.proof(0, 0));
    }

    private void promise8IndexAheadOfTurn() {
        due.about("Promise 8 and Terms", ORDER);
        refusals.index(State.MIDDLE, "prove(8, 0), no such leaf and a day of none", x -> x.prove(8, 0));
        refusals.index(State.MIDDLE, "prove(7, 3), a late leaf and no such day", x -> x.prove(7, 3));
        refusals.index(State.MIDDLE, "prove(7, -1)", x -> x.prove(7, -1));
        refusals.index(State.FULL, "prove(24, 0)", x -> x.prove(24, 0));
    }

    private void promise9OfTheLatestProof() {
        due.about("Promise 9", "Byte i of digest k of the latest proof.");
        ProofLeaves x = proved(0, 24);
        for (int k : new int[] {0, 4}) {
            byte[] digest = Model.path(0, Sample.plainLeaves(24)).get(k);
            due.equal("byte 0 of digest " + k, x.proof(k, 0), digest[0] & 255);
            due.equal("byte 31 of digest " + k, x.proof(k, 31), digest[31] & 255);
        }
        x.prove(1, 0);
        due.equal("of the latest, not the first", Sample.proofHex(x, 0), Sample.leafHex(x, 0));
        ProofLeaves shorter = proved(0, 5);
        shorter.prove(4, 0);
        due.equal("a shorter one behind a longer", Sample.proofHex(shorter, 0),
                Sample.hex(Model.tree(Sample.plainLeaves(4))));
        due.thrown("the longer one's last is gone", IndexOutOfBoundsException.class, () -> shorter.proof(1, 0));
    }

    private void promise9NoSuchDigest() {
        due.about("Promise 9", "Index: no such digest");
        for (State state : State.values()) {
            for (int k : Refusals.outside(state.proofLength)) {
                refusals.index(state, "proof(" + k + ", 0)", x -> x.proof(k, 0));
                refusals.index(state, "proof(" + k + ", 32)", x -> x.proof(k, 32));
            }
        }
        refusals.index(State.MIDDLE, "proof(4, 0), beyond two digests", x -> x.proof(4, 0));
    }

    private void promise9NoSuchByte() {
        due.about("Promise 9", "or byte.");
        for (State state : PROVED) {
            for (int i : Refusals.outside(32)) {
                refusals.index(state, "proof(0, " + i + ")", x -> x.proof(0, i));
                refusals.index(state, "proof(last, " + i + ")", x -> x.proof(state.proofLength - 1, i));
            }
        }
    }

    private void promise10XoredByAMask() {
        due.about("Promise 10", "A byte of the latest proof is xored by a mask (1 .. 255).");
        for (int k : new int[] {0, 4}) {
            for (int i : new int[] {0, 31}) {
                ProofLeaves x = proved(0, 24);
                int before = x.proof(k, i);
                x.bend(k, i, 1);
                due.equal("by 1", x.proof(k, i), before ^ 1);
                x.bend(k, i, 255);
                due.equal("by 255 then", x.proof(k, i), before ^ 254);
                x.bend(k, i, 128);
                due.equal("by 128 then", x.proof(k, i), before ^ 126);
                due.equal("another root", x.check(0, 0, 0, 24), 3);
                x.bend(k, i, 126);
                due.equal("bent back", x.check(0, 0, 0, 24), 0);
            }
        }
        ProofLeaves x = proved(1, 2);
        x.bend(0, 0, 255);
        due.equal("the leaf that it is of stays", Sample.leafHex(x, 0), Sample.hex(Model.leafDigest(new byte[] {0})));
        x.prove(1, 0);
        due.equal("a new proof is not bent", Sample.proofHex(x, 0), Sample.leafHex(x, 0));
    }

    private void promise10NoSuchDigest() {
        due.about("Promise 10", "Index: no such digest");
        for (State state : State.values()) {
            for (int k : Refusals.outside(state.proofLength)) {
                refusals.index(state, "bend(" + k + ", 0, 1)", x -> x.bend(k, 0, 1));
            }
        }
        refusals.index(State.MIDDLE, "bend(4, 0, 1), beyond two digests", x -> x.bend(4, 0, 1));
    }

    private void promise10NoSuchByte() {
        due.about("Promise 10", "or byte; range");
        for (State state : PROVED) {
            for (int i : Refusals.outside(32)) {
                refusals.index(state, "bend(0, " + i + ", 1)", x -> x.bend(0, i, 1));
                refusals.index(state, "bend(last, " + i + ", 255)", x -> x.bend(state.proofLength - 1, i, 255));
            }
        }
    }

    private void promise10RangeTheMask() {
        due.about("Promise 10", "range: the mask");
        for (State state : PROVED) {
            for (int mask : Refusals.NO_MASKS) {
                refusals.range(state, "bend(0, 0, " + mask + ")", x -> x.bend(0, 0, mask));
                refusals.range(state, "bend(last, 31, " + mask + ")", x -> x.bend(state.proofLength - 1, 31, mask));
            }
        }
    }

    private void promise10IndexAheadOfRange() {
        due.about("Promise 10 and Terms", ORDER);
        for (int mask : new int[] {0, 256, Integer.MIN_VALUE}) {
            refusals.index(State.UNPROVED, "bend(0, 0, " + mask + "), no proof", x -> x.bend(0, 0, mask));
            refusals.index(State.ONE, "bend(0, 0, " + mask + "), no digests", x -> x.bend(0, 0, mask));
            refusals.index(State.MIDDLE, "bend(2, 0, " + mask + ")", x -> x.bend(2, 0, mask));
            refusals.index(State.MIDDLE, "bend(0, 32, " + mask + ")", x -> x.bend(0, 32, mask));
            refusals.index(State.MIDDLE, "bend(-1, -1, " + mask + ")", x -> x.bend(-1, -1, mask));
        }
    }

    private void promise11Right() {
        due.about("Promise 11", "0 right");
        due.equal("one leaf, a proof of no digests", proved(0, 1).check(0, 0, 0, 1), 0);
        due.equal("the first of 24", proved(0, 24).check(0, 0, 0, 24), 0);
        due.equal("the last of 24, the greatest number", proved(23, 24).check(23, 0, 23, 24), 0);
        ProofLeaves x = new ProofLeaves();
        x.feed(7, 1);
        x.leaf();
        x.feed(7, 1);
        x.leaf();
        x.close();
        x.prove(0, 0);
        due.equal("two leaves of the same digest: either number", x.check(0, 0, 1, 2), 0);
        due.equal("two leaves of the same digest: either digest", x.check(1, 0, 0, 2), 0);
    }

    private void promise11TheCountIsNotTheDays() {
        due.about("Promise 11", "1 the count is not the day's");
        ProofLeaves x = proved(1, 3);
        due.equal("one less", x.check(1, 0, 1, 2), 1);
        due.equal("one more", x.check(1, 0, 1, 4), 1);
        due.equal("beyond 24", x.check(1, 0, 1, 25), 1);
        due.equal("the greatest", x.check(1, 0, 1, Integer.MAX_VALUE), 1);
        due.equal("the greatest number too", x.check(1, 0, Integer.MAX_VALUE - 1, Integer.MAX_VALUE), 1);
        due.equal("256 more", x.check(1, 0, 1, 259), 1);
        x.bend(0, 0, 1);
        due.equal("ahead of another root", x.check(1, 0, 1, 4), 1);
        due.equal("ahead of another length", x.check(1, 0, 4, 5), 1);
        ProofLeaves middle = State.MIDDLE.make();
        due.equal("a day of no leaves", middle.check(6, 0, 0, 1), 1);
        due.equal("another day's count", middle.check(6, 1, 2, 7), 1);
    }

    private void promise11AnotherLength() {
        due.about("Promise 11", "2 the proof has another length than it must have");
        ProofLeaves x = proved(4, 5);
        due.equal("one digest for three", x.check(4, 0, 0, 5), 2);
        due.equal("one digest for one", x.check(4, 0, 4, 5), 0);
        x.prove(0, 0);
        due.equal("three digests for one", x.check(4, 0, 4, 5), 2);
        due.equal("three digests for three", x.check(0, 0, 3, 5), 3);
        x.bend(0, 0, 1);
        due.equal("ahead of another root", x.check(4, 0, 4, 5), 2);
        ProofLeaves none = State.ONE.make();
        none.leaf();
        none.close();
        due.equal("none for one", none.check(0, 1, 0, 2), 2);
        due.equal("none for one, of the other leaf", none.check(1, 1, 1, 2), 2);
        none.prove(0, 1);
        due.equal("one for none", none.check(0, 0, 0, 1), 2);
        ProofLeaves most = proved(15, 24);
        due.equal("five for four", most.check(15, 0, 16, 24), 2);
        due.equal("five for five", most.check(15, 0, 15, 24), 0);
        most.prove(16, 0);
        due.equal("four for five", most.check(16, 0, 15, 24), 2);
    }

    private void promise11AnotherRoot() {
        due.about("Promise 11", "3 another root");
        ProofLeaves x = proved(0, 24);
        due.equal("another number", x.check(0, 0, 1, 24), 3);
        due.equal("another leaf's digest", x.check(1, 0, 0, 24), 3);
        x.bend(4, 31, 1);
        due.equal("the last bit of the proof", x.check(0, 0, 0, 24), 3);
        x.bend(4, 31, 1);
        x.poke(0, 31, 1);
        due.equal("the last bit of the leaf's digest", x.check(0, 0, 0, 24), 3);
        x.poke(0, 31, 1);
        x.poke(1, 0, 1);
        due.equal("another leaf poked: the proof is as it was made", x.check(0, 0, 0, 24), 0);
        ProofLeaves late = proved(1, 2);
        late.leaf();
        due.equal("a leaf that came later", late.check(2, 0, 1, 2), 3);
    }

    private void promise11NoSuchLeafOrDay() {
        due.about("Promise 11", "Index: no such leaf (digest) or day");
        for (State state : State.values()) {
            for (int leaf : Refusals.outside(state.leaves)) {
                refusals.index(state, "check(" + leaf + ", last, 0, 1)", x -> x.check(leaf, state.days - 1, 0, 1));
            }
            for (int day : Refusals.outside(state.days)) {
                refusals.index(state, "check(0, " + day + ", 0, 1)", x -> x.check(0, day, 0, 1));
                refusals.index(state, "check(next, " + day + ", 0, 1)", x -> x.check(state.leaves, day, 0, 1));
            }
        }
    }

    private void promise11ThereIsNoProof() {
        due.about("Promise 11", "turn: there is no proof");
        refusals.turn(State.UNPROVED, "check(0, 0, 0, 3)", x -> x.check(0, 0, 0, 3));
        refusals.turn(State.UNPROVED, "check(0, 0, 0, 1), another count", x -> x.check(0, 0, 0, 1));
        ProofLeaves x = Sample.withLeaves(1);
        x.close();
        due.thrown("one leaf, before its proof", IllegalStateException.class, () -> x.check(0, 0, 0, 1));
        x.prove(0, 0);
        due.equal("a proof of no digests is a proof", x.check(0, 0, 0, 1), 0);
        x.leaf();
        x.close();
        due.equal("it stays the latest when leaves and days come", x.check(0, 0, 0, 1), 0);
    }

    private void promise11TheNumberTold() {
        due.about("Promise 11", "range: the number told is not below the count told, or below 0");
        int least = Integer.MIN_VALUE;
        int most = Integer.MAX_VALUE;
        int[][] told = {{7, 7}, {8, 7}, {-1, 7}, {0, 0}, {-1, 0}, {0, -1}, {-2, -1}, {-1, -1}, {1, 1}, {24, 24},
            {25, 24}, {most, most}, {most, 7}, {least, 7}, {least, most}, {0, least}, {least, least}, {most, least}};
        for (State state : new State[] {State.ONE, State.MIDDLE, State.FULL}) {
            for (int[] one : told) {
                String text = one[0] + ", " + one[1] + ")";
                refusals.range(state, "check(0, 0, " + text, x -> x.check(0, 0, one[0], one[1]));
                refusals.range(state, "check(last, last, " + text,
                        x -> x.check(state.leaves - 1, state.days - 1, one[0], one[1]));
            }
        }
        ProofLeaves x = proved(6, 7);
        due.equal("the greatest number below the count", x.check(6, 0, 6, 7), 0);
        due.equal("the least number", x.check(6, 0, 0, 7), 2);
        due.equal("the least of a great count", x.check(6, 0, 0, most), 1);
    }

    private void promise11IndexAheadOfTurnAheadOfRange() {
        due.about("Promise 11 and Terms", ORDER);
        refusals.index(State.UNPROVED, "check(3, 0, 0, 3), no leaf and no proof", x -> x.check(3, 0, 0, 3));
        refusals.index(State.UNPROVED, "check(0, 1, 0, 3), no day and no proof", x -> x.check(0, 1, 0, 3));
        refusals.index(State.UNPROVED, "check(0, -1, -1, 0), and no number", x -> x.check(0, -1, -1, 0));
        refusals.turn(State.UNPROVED, "check(0, 0, 3, 3), no proof and no number", x -> x.check(0, 0, 3, 3));
        refusals.turn(State.UNPROVED, "check(0, 0, -1, 3)", x -> x.check(0, 0, -1, 3));
        refusals.turn(State.UNPROVED, "check(0, 0, 0, 0)", x -> x.check(0, 0, 0, 0));
        refusals.index(State.MIDDLE, "check(8, 2, 7, 7), no leaf and no number", x -> x.check(8, 2, 7, 7));
        refusals.index(State.MIDDLE, "check(0, 3, -1, 7), no day and no number", x -> x.check(0, 3, -1, 7));
        refusals.range(State.MIDDLE, "check(6, 2, 8, 8), no number and another count", x -> x.check(6, 2, 8, 8));
    }

    /** Days of 0, 3, 3 and 7 leaves, and a leaf behind them. */
    private static ProofLeaves fourDays() {
        ProofLeaves x = new ProofLeaves();
        x.close();
        Sample.addLeaves(x, 3);
        x.close();
        x.close();
        Sample.addLeaves(x, 4);
        x.close();
        x.leaf();
        return x;
    }

    private void promise12FirstLeavesAndAllItsOwn() {
        due.about("Promise 12", "its first leaves, as many as that had, still make that one's root, and all its own");
        due.holds("nothing poked", fourDays().grew(1, 3));
        // Each leaf of the earlier day, of the later one alone, and of neither.
        for (int leaf = 0; leaf < 8; leaf++) {
            ProofLeaves x = fourDays();
            x.poke(leaf, 31, 1);
            String poked = "leaf " + leaf + " poked: ";
            due.holds(poked + "no leaves to the same day", x.grew(0, 0));
            due.equal(poked + "3 leaves to 3", x.grew(1, 2) ? 1 : 0, leaf < 3 ? 0 : 1);
            due.equal(poked + "3 leaves to 7", x.grew(1, 3) ? 1 : 0, leaf < 7 ? 0 : 1);
            due.equal(poked + "7 leaves to the same day", x.grew(3, 3) ? 1 : 0, leaf < 7 ? 0 : 1);
            due.equal(poked + "no leaves to 7", x.grew(0, 3) ? 1 : 0, leaf < 7 ? 0 : 1);
            x.poke(leaf, 31, 1);
            due.holds(poked + "and back", x.grew(1, 3));
        }
        ProofLeaves x = fourDays();
        x.poke(0, 0, 1);
        x.close();
        due.holds("a day closed with the poked leaf, by itself", x.grew(4, 4));
        due.fails("a day closed before, to it", x.grew(1, 4));
        due.holds("a day of no leaves, to it", x.grew(0, 4));
        x.poke(0, 0, 1);
        due.fails("poked back: its own root is no longer made", x.grew(1, 4));
        due.holds("but the earlier ones' are", x.grew(1, 3));
    }

    private void promise12OfNoLeavesAndTheSameDay() {
        due.about("Promise 12", "Whether a day's tree grew from an earlier one's");
        for (int day = 0; day < 4; day++) {
            due.holds("day " + day + " from itself", fourDays().grew(day, day));
            due.holds("day " + day + " from no leaves", fourDays().grew(0, day));
        }
        ProofLeaves none = new ProofLeaves();
        none.close();
        none.close();
        due.holds("no leaves from no leaves", none.grew(0, 1));
        ProofLeaves full = State.FULL.make();
        due.holds("the last from the first", full.grew(0, 11));
        for (int day = 0; day < 11; day++) {
            due.holds("24 leaves from day " + day, full.grew(day, 11));
        }
    }

    private void promise12NoSuchDays() {
        due.about("Promise 12", "Index: no such days");
        for (State state : State.values()) {
            for (int day : Refusals.outside(state.days)) {
                refusals.index(state, "grew(" + day + ", last)", x -> x.grew(day, state.days - 1));
                refusals.index(state, "grew(0, " + day + ")", x -> x.grew(0, day));
                refusals.index(state, "grew(" + day + ", " + day + ")", x -> x.grew(day, day));
            }
        }
    }

    private void promise12TheFirstIsLater() {
        due.about("Promise 12", "range: the first is later than the second");
        refusals.range(State.MIDDLE, "grew(1, 0)", x -> x.grew(1, 0));
        refusals.range(State.MIDDLE, "grew(2, 1)", x -> x.grew(2, 1));
        refusals.range(State.FULL, "grew(11, 0)", x -> x.grew(11, 0));
        refusals.range(State.FULL, "grew(11, 10)", x -> x.grew(11, 10));
        due.thrown("though they have the same leaves", IllegalArgumentException.class, () -> fourDays().grew(2, 1));
        due.holds("the same day is not later", fourDays().grew(2, 2));
        due.holds("nor is one day before", fourDays().grew(1, 2));
    }

    private void promise12IndexAheadOfRange() {
        due.about("Promise 12 and Terms", ORDER);
        refusals.index(State.MIDDLE, "grew(3, 2), no such day and later", x -> x.grew(3, 2));
        refusals.index(State.MIDDLE, "grew(0, -1), later than no such day", x -> x.grew(0, -1));
        refusals.index(State.MIDDLE, "grew(4, 3)", x -> x.grew(4, 3));
        refusals.index(State.FULL, "grew(12, 11)", x -> x.grew(12, 11));
    }
}
