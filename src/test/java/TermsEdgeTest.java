import java.util.List;

/**
 * The boundary cases that the document's opening and its 'Terms' name, each sentence by a method of
 * its own that bears the sentence. What a refused call does is in the other EdgeTests.
 */
public final class TermsEdgeTest {
    /** Counts of leaves, each with the greatest power of two below it, written out by hand. */
    private static final int[][] CUTS = {
        {2, 1}, {3, 2}, {4, 2}, {5, 4}, {6, 4}, {7, 4}, {8, 4}, {9, 8}, {15, 8}, {16, 8}, {17, 16}, {23, 16}, {24, 16}
    };

    private final Due due = new Due();

    public static void main(String[] args) {
        TermsEdgeTest test = new TermsEdgeTest();
        test.objectIsUsedFor512Calls();
        test.bytesAre0To255();
        test.tapeTakesAtMost200();
        test.leavesAreAtMost24();
        test.tapeIsUsedUp();
        test.leafOfNoBytes();
        test.treeOfOneLeaf();
        test.treeIsCutBelowN();
        test.daysAreAtMost12();
        test.dayHasTheLeavesSoFar();
        test.rootOfNoLeaves();
        test.proofOfOneLeaf();
        test.proofOnBothSidesOfTheCut();
        test.checkerOfALeafByItself();
        test.checkerTakesDigestsAsRightOrLeft();
        test.rightIsForAToldDay();
        test.rowIsSortedAsNumbers();
        test.notWithdrawnIsAbsent();
        test.neighboursAreBelowAndAbove();
        test.lowestOfTheSame();
        test.noneIsMinusOne();
        test.rowIsOfDigestsAsTheyStand();
        test.keysAreAnyLongs();
        test.pokedIsAsItStandsThen();
        test.due.end();
    }

    private void objectIsUsedFor512Calls() {
        due.about("What it is", "An object is used for at most 512 calls after it has been made");
        ProofLeaves x = Sample.withLeaves(24);
        x.close();
        for (int call = 49; call < 511; call++) {
            x.grew(0, 0);
        }
        due.equal("the 512th call", x.close(), 1);
        ProofLeaves y = Sample.withLeaves(24);
        y.close();
        for (int call = 49; call < 511; call++) {
            Due.outcome(() -> y.leaf());
        }
        due.holds("the 512th call behind 462 refused ones", y.grew(0, 0));
    }

    private void bytesAre0To255() {
        due.about("Terms", "BYTES are 0 .. 255.");
        ProofLeaves x = Sample.withLeaves(2);
        Sample.setByte(x, 0, 0, 255);
        Sample.setByte(x, 0, 1, 128);
        Sample.setByte(x, 0, 2, 0);
        x.close();
        x.prove(1, 0);
        int[] told = {255, 128, 0};
        for (int i = 0; i < told.length; i++) {
            due.equal("a digest's byte", x.digest(0, i), told[i]);
            due.equal("a proof's byte", x.proof(0, i), told[i]);
        }
        ProofLeaves empty = new ProofLeaves();
        empty.close();
        due.equal("a root's byte", empty.root(0, 0), 0xe3);
        byte[] mark = Model.sha(Model.eight(2), Model.sha(Model.eight(1), Sample.leafBytes(x, 1)));
        for (int i = 0; i < 32; i++) {
            due.equal("a mark's byte " + i, x.mark(1, 1, 2, i), mark[i] & 255);
        }
        ProofLeaves high = new ProofLeaves();
        high.feed(0xff80007fL, 4);
        high.leaf();
        due.equal("a leaf of bytes 255, 128, 0, 127", Sample.leafHex(high, 0),
                Sample.hex(Model.leafDigest(new byte[] {-1, -128, 0, 127})));
    }

    private void tapeTakesAtMost200() {
        due.about("Terms", "The TAPE takes bytes (at most 200).");
        ProofLeaves x = new ProofLeaves();
        Sample.fillTape(x, 199);
        due.equal("the 200th byte", x.feed(200, 1), 200);
        due.equal("a leaf of 200 bytes", x.leaf(), 0);
        due.equal("all 200 bytes count", Sample.leafHex(x, 0), Sample.hex(Model.leafDigest(Sample.tapeBytes(200))));
        ProofLeaves less = new ProofLeaves();
        Sample.fillTape(less, 199);
        less.leaf();
        due.equal("199 bytes", Sample.leafHex(less, 0), Sample.hex(Model.leafDigest(Sample.tapeBytes(199))));
    }

    private void leavesAreAtMost24() {
        due.about("Terms", "LEAVES 0, 1, .. (at most 24)");
        ProofLeaves x = Sample.withLeaves(23);
        x.feed(23, 1);
        due.equal("the 24th", x.leaf(), 23);
        for (int leaf : new int[] {0, 22, 23}) {
            due.equal("digest of leaf " + leaf, Sample.leafHex(x, leaf),
                    Sample.hex(Model.leafDigest(new byte[] {(byte) leaf})));
        }
    }

    private void tapeIsUsedUp() {
        due.about("Terms", "are made of the tape (used up)");
        ProofLeaves x = new ProofLeaves();
        Sample.fillTape(x, 200);
        x.leaf();
        due.equal("the next leaf", x.leaf(), 1);
        due.equal("is of no bytes", Sample.leafHex(x, 1), Sample.OF_EMPTY_LEAF);
        x.feed(9, 1);
        x.leaf();
        due.equal("one byte behind 200", Sample.leafHex(x, 2), Sample.hex(Model.leafDigest(new byte[] {9})));
        for (int i = 1; i <= 25; i++) {
            due.equal("200 bytes fit again", x.feed(0, 8), 8 * i);
        }
    }

    private void leafOfNoBytes() {
        due.about("Terms", "a leaf's digest is that of a byte 0 and its bytes");
        ProofLeaves x = new ProofLeaves();
        x.leaf();
        due.equal("of no bytes", Sample.leafHex(x, 0), Sample.OF_EMPTY_LEAF);
        x.feed(0, 1);
        x.leaf();
        due.equal("of a byte 0", Sample.leafHex(x, 1), Sample.hex(Model.sha(new byte[] {0, 0})));
    }

    private void treeOfOneLeaf() {
        due.about("Terms", "of one its digest");
        ProofLeaves x = Sample.withLeaves(1);
        x.close();
        due.equal("the root of one leaf", Sample.rootHex(x, 0), Sample.leafHex(x, 0));
    }

    private void treeIsCutBelowN() {
        due.about("Terms", "else with k the greatest power of two below n");
        for (int[] cut : CUTS) {
            int n = cut[0];
            int k = cut[1];
            List<byte[]> leaves = Sample.plainLeaves(n);
            byte[] want = Model.node(Model.tree(leaves.subList(0, k)), Model.tree(leaves.subList(k, n)));
            ProofLeaves x = Sample.withLeaves(n);
            x.close();
            due.equal(n + " leaves are cut at " + k, Sample.rootHex(x, 0), Sample.hex(want));
        }
    }

    private void daysAreAtMost12() {
        due.about("Terms", "A DAY 0, 1, .. (at most 12)");
        ProofLeaves x = new ProofLeaves();
        for (int day = 0; day < 11; day++) {
            x.close();
        }
        x.leaf();
        due.equal("the 12th", x.close(), 11);
        due.equal("its count", x.count(11), 1);
        due.equal("its root", Sample.rootHex(x, 11), Sample.OF_EMPTY_LEAF);
        due.equal("the 11th's root", Sample.rootHex(x, 10), Sample.OF_NO_BYTES);
    }

    private void dayHasTheLeavesSoFar() {
        due.about("Terms", "is CLOSED with the leaves so far");
        ProofLeaves x = Sample.withLeaves(2);
        x.close();
        x.close();
        due.equal("no leaf more: the same count", x.count(1), 2);
        due.equal("and the same root", Sample.rootHex(x, 1), Sample.rootHex(x, 0));
        String before = Sample.rootHex(x, 1);
        x.leaf();
        due.equal("a leaf behind it does not count", x.count(1), 2);
        due.equal("nor go into its root", Sample.rootHex(x, 1), before);
        x.close();
        due.equal("but on the next day", x.count(2), 3);
    }

    private void rootOfNoLeaves() {
        due.about("Terms", "(of no leaves: the digest of no bytes)");
        ProofLeaves x = new ProofLeaves();
        x.feed(1, 8);
        x.close();
        due.equal("bytes on the tape are no leaf", Sample.rootHex(x, 0), Sample.OF_NO_BYTES);
        due.equal("the count", x.count(0), 0);
        x.leaf();
        due.equal("behind a leaf", Sample.rootHex(x, 0), Sample.OF_NO_BYTES);
    }

    private void proofOfOneLeaf() {
        due.about("Terms", "of one leaf none");
        ProofLeaves x = Sample.withLeaves(1);
        x.close();
        due.equal("digests of its proof", x.prove(0, 0), 0);
        Sample.addLeaves(x, 1);
        due.equal("though leaves came later", x.prove(0, 0), 0);
    }

    private void proofOnBothSidesOfTheCut() {
        due.about("Terms", "when the leaf is among the first k, that of it there and then the tree of the others; "
                + "else that of it among the others and then the tree of the first k");
        for (int[] cut : CUTS) {
            int n = cut[0];
            int k = cut[1];
            List<byte[]> first = Sample.plainLeaves(n).subList(0, k);
            List<byte[]> others = Sample.plainLeaves(n).subList(k, n);
            outermost(n, 0, Model.path(0, first).size(), Model.tree(others));
            outermost(n, k - 1, Model.path(k - 1, first).size(), Model.tree(others));
            outermost(n, k, Model.path(0, others).size(), Model.tree(first));
            outermost(n, n - 1, Model.path(n - 1 - k, others).size(), Model.tree(first));
        }
    }

    private void outermost(int n, int leaf, int within, byte[] want) {
        ProofLeaves x = Sample.withLeaves(n);
        x.close();
        due.equal("leaf " + leaf + " of " + n + ", digests", x.prove(leaf, 0), within + 1);
        due.equal("leaf " + leaf + " of " + n + ", the last digest", Sample.proofHex(x, within), Sample.hex(want));
    }

    private void checkerOfALeafByItself() {
        due.about("Terms", "of a leaf by itself its digest");
        ProofLeaves one = Sample.withLeaves(1);
        one.close();
        one.prove(0, 0);
        due.equal("its own digest", one.check(0, 0, 0, 1), 0);
        one.feed(9, 1);
        one.leaf();
        due.equal("another leaf's digest", one.check(1, 0, 0, 1), 3);
        one.poke(0, 31, 1);
        due.equal("its digest poked", one.check(0, 0, 0, 1), 3);
    }

    private void checkerTakesDigestsAsRightOrLeft() {
        due.about("Terms", "each as the right or left one as above");
        for (int[] cut : CUTS) {
            int n = cut[0];
            for (int leaf : new int[] {0, cut[1] - 1, cut[1], n - 1}) {
                ProofLeaves x = Sample.withLeaves(n);
                x.close();
                x.prove(leaf, 0);
                due.equal("leaf " + leaf + " of " + n, x.check(leaf, 0, leaf, n), 0);
            }
        }
    }

    private void rightIsForAToldDay() {
        due.about("Terms", "It is RIGHT when that is the root of a told day and the count that day's.");
        ProofLeaves x = Sample.withLeaves(3);
        x.close();
        x.close();
        x.poke(0, 0, 1);
        x.close();
        x.poke(0, 0, 1);
        x.prove(2, 0);
        due.equal("the day of the proof", x.check(2, 0, 2, 3), 0);
        due.equal("another day of the same root", x.check(2, 1, 2, 3), 0);
        due.equal("a day of the same count and another root", x.check(2, 2, 2, 3), 3);
        x.leaf();
        x.close();
        due.equal("a day of another count", x.check(2, 3, 2, 3), 1);
    }

    private void rowIsSortedAsNumbers() {
        due.about("Terms", "(as numbers, the first byte the highest)");
        ProofLeaves x = Sample.withDigests(new int[][] {{127, 255}, {128, 0}, {128, 127}, {128, 128}, {255, 0}});
        x.withdraw(0);
        x.withdraw(4);
        due.equal("127.255 is below 128.0", x.absence(1, 0), 0);
        due.equal("255.0 is above 128.0", x.absence(1, 1), 4);
        due.equal("127.255 is below 128.127", x.absence(2, 0), 0);
        x.withdraw(2);
        due.equal("128.127 is below 128.128", x.absence(3, 0), 2);
        due.equal("128.127 is above 128.0", x.absence(1, 1), 2);
        ProofLeaves ends = Sample.withDigests(new int[][] {{0, 0}, {255, 255}, {0, 1}});
        ends.withdraw(0);
        ends.withdraw(1);
        due.equal("the least digest of all", ends.absence(2, 0), 0);
        due.equal("nearly the greatest", ends.absence(2, 1), 1);
    }

    private void notWithdrawnIsAbsent() {
        due.about("Terms", "A leaf that is not withdrawn is ABSENT");
        ProofLeaves x = Sample.withDigests(new int[][] {{1, 0}, {2, 0}});
        due.equal("none is withdrawn", x.absence(0, 0), -1);
        x.withdraw(1);
        due.equal("another is withdrawn", x.absence(0, 1), 1);
        x.leaf();
        due.equal("a leaf that came behind it", x.absence(2, 0), 1);
    }

    private void neighboursAreBelowAndAbove() {
        due.about("Terms", "its neighbours are that of the greatest withdrawn digest below it "
                + "and that of the least one above it");
        ProofLeaves x = Sample.withDigests(new int[][] {{5, 0}, {5, 0}, {4, 255}, {5, 1}, {3, 0}, {6, 0}});
        x.withdraw(1);
        due.equal("the same digest is not below", x.absence(0, 0), -1);
        due.equal("the same digest is not above", x.absence(0, 1), -1);
        x.withdraw(4);
        x.withdraw(5);
        due.equal("the only one below", x.absence(0, 0), 4);
        due.equal("the only one above", x.absence(0, 1), 5);
        x.withdraw(2);
        x.withdraw(3);
        due.equal("the greatest below", x.absence(0, 0), 2);
        due.equal("the least above", x.absence(0, 1), 3);
    }

    private void lowestOfTheSame() {
        due.about("Terms", "of the same digests the lowest");
        ProofLeaves x = Sample.withDigests(new int[][] {{1, 0}, {2, 0}, {1, 0}, {3, 0}, {1, 0}, {3, 0}, {3, 0}});
        x.withdraw(4);
        x.withdraw(6);
        due.equal("one below", x.absence(1, 0), 4);
        due.equal("one above", x.absence(1, 1), 6);
        x.withdraw(2);
        x.withdraw(5);
        due.equal("two below, the lower withdrawn later", x.absence(1, 0), 2);
        due.equal("two above, the lower withdrawn later", x.absence(1, 1), 5);
        x.withdraw(0);
        x.withdraw(3);
        due.equal("three below", x.absence(1, 0), 0);
        due.equal("three above", x.absence(1, 1), 3);
    }

    private void noneIsMinusOne() {
        due.about("Terms", "-1 when there is none");
        ProofLeaves x = Sample.withDigests(new int[][] {{1, 0}, {2, 0}, {3, 0}});
        x.withdraw(1);
        due.equal("below the least", x.absence(0, 0), -1);
        due.equal("above the least", x.absence(0, 1), 1);
        due.equal("below the greatest", x.absence(2, 0), 1);
        due.equal("above the greatest", x.absence(2, 1), -1);
    }

    private void rowIsOfDigestsAsTheyStand() {
        due.about("Terms", "digests as they stand");
        ProofLeaves x = Sample.withDigests(new int[][] {{1, 0}, {2, 0}, {3, 0}});
        x.withdraw(0);
        x.withdraw(2);
        x.poke(0, 0, 1 ^ 5);
        due.equal("a withdrawn one poked away from below", x.absence(1, 0), -1);
        due.equal("it is above, and further", x.absence(1, 1), 2);
        x.poke(1, 0, 2 ^ 4);
        due.equal("the absent one poked, below", x.absence(1, 0), 2);
        due.equal("the absent one poked, above", x.absence(1, 1), 0);
        x.poke(2, 0, 3 ^ 5);
        due.equal("poked to the same: of these the lowest", x.absence(1, 1), 0);
        x.poke(2, 31, 1);
        x.poke(0, 31, 2);
        due.equal("the last byte poked", x.absence(1, 1), 2);
    }

    private void keysAreAnyLongs() {
        due.about("Terms", "(any longs, eight bytes each, the highest first)");
        long[] edges = {0, 1, -1, 255, 256, Long.MIN_VALUE, Long.MAX_VALUE, 0xffffffffL, 1L << 32};
        for (long key : edges) {
            ProofLeaves x = Sample.withLeaves(1);
            byte[] digest = Sample.leafBytes(x, 0);
            due.equal("key 1 is " + key, Sample.markHex(x, 0, key, 5),
                    Sample.hex(Model.sha(Model.eight(5), Model.sha(Model.eight(key), digest))));
            due.equal("key 2 is " + key, Sample.markHex(x, 0, 5, key),
                    Sample.hex(Model.sha(Model.eight(key), Model.sha(Model.eight(5), digest))));
            due.equal("both are " + key, Sample.markHex(x, 0, key, key),
                    Sample.hex(Model.sha(Model.eight(key), Model.sha(Model.eight(key), digest))));
        }
    }

    private void pokedIsAsItStandsThen() {
        due.about("Terms", "what comes of it (trees, proofs, marks, order) is as it stands then; days' roots stay");
        ProofLeaves x = Sample.withLeaves(2);
        x.close();
        String root = Sample.rootHex(x, 0);
        x.prove(1, 0);
        String made = Sample.proofHex(x, 0);
        x.poke(0, 0, 255);
        due.equal("a day's root", Sample.rootHex(x, 0), root);
        due.equal("a proof made before", Sample.proofHex(x, 0), made);
        x.prove(1, 0);
        due.equal("a proof made then", Sample.proofHex(x, 0), Sample.leafHex(x, 0));
        x.close();
        due.equal("a tree made then", Sample.rootHex(x, 1), Sample.hex(Model.tree(Sample.firstLeaves(x, 2))));
        byte[] poked = Sample.leafBytes(x, 0);
        due.equal("a mark then", x.mark(0, 1, 2, 31),
                Model.sha(Model.eight(2), Model.sha(Model.eight(1), poked))[31] & 255);
        x.poke(0, 0, 255);
        due.equal("poked back", Sample.hex(Model.tree(Sample.firstLeaves(x, 2))), root);
    }
}
