import java.nio.charset.StandardCharsets;
import java.util.List;

/**
 * One method or more a promise: ordinary inputs, the edges that the document names, wrong inputs.
 * No object here is called more than 512 times, since what it answers after that is free.
 */
public final class PromiseTest {
    private static final Class<IndexOutOfBoundsException> INDEX = IndexOutOfBoundsException.class;
    private static final Class<IllegalStateException> TURN = IllegalStateException.class;
    private static final Class<IllegalArgumentException> RANGE = IllegalArgumentException.class;
    private static final Class<UnsupportedOperationException> MEANING = UnsupportedOperationException.class;

    private static final int[] NO_BYTES = {-1, 32, Integer.MIN_VALUE, Integer.MAX_VALUE};
    private static final int[] NO_MASKS = {0, 256, -1, 257, Integer.MIN_VALUE, Integer.MAX_VALUE};

    private final Due due = new Due();

    public static void main(String[] args) {
        PromiseTest test = new PromiseTest();
        test.promise1NewObject();
        test.promise2Feed();
        test.promise2FeedHasRoomFor200();
        test.promise3Leaf();
        test.promise3LeafOfEveryLength();
        test.promise3AtMost24();
        test.promise4Close();
        test.promise5Root();
        test.promise5RootOfEveryCount();
        test.promise6Digest();
        test.promise7Count();
        test.promise8Prove();
        test.promise8EveryProof();
        test.promise9Proof();
        test.promise10Bend();
        test.promise11Check();
        test.promise11EveryToldNumber();
        test.promise12Grew();
        test.promise13Withdraw();
        test.promise14Absence();
        test.promise14SameDigests();
        test.promise15Mark();
        test.promise16Poke();
        test.due.end();
    }

    private void promise1NewObject() {
        ProofLeaves x = new ProofLeaves();
        due.thrown("1: digest(0, 0)", INDEX, () -> x.digest(0, 0));
        due.thrown("1: mark(0, 0, 0, 0)", INDEX, () -> x.mark(0, 0, 0, 0));
        due.thrown("1: poke(0, 0, 1)", INDEX, () -> x.poke(0, 0, 1));
        due.thrown("1: withdraw(0)", INDEX, () -> x.withdraw(0));
        due.thrown("1: absence(0, 0)", INDEX, () -> x.absence(0, 0));
        due.thrown("1: root(0, 0)", INDEX, () -> x.root(0, 0));
        due.thrown("1: count(0)", INDEX, () -> x.count(0));
        due.thrown("1: grew(0, 0)", INDEX, () -> x.grew(0, 0));
        due.thrown("1: prove(0, 0)", INDEX, () -> x.prove(0, 0));
        due.thrown("1: check(0, 0, 0, 1)", INDEX, () -> x.check(0, 0, 0, 1));
        due.thrown("1: proof(0, 0)", INDEX, () -> x.proof(0, 0));
        due.thrown("1: bend(0, 0, 1)", INDEX, () -> x.bend(0, 0, 1));
        due.equal("1: the tape is empty", x.feed(1, 1), 1);

        ProofLeaves other = new ProofLeaves();
        due.equal("1: another object's tape is its own", other.feed(1, 2), 2);
        due.equal("1: and so are its leaves", other.leaf(), 0);
        due.thrown("1: none of them here", INDEX, () -> x.digest(0, 0));
    }

    private void promise2Feed() {
        ProofLeaves x = new ProofLeaves();
        long bytes = 0x8182838485868788L;
        due.equal("2: one byte", x.feed(bytes, 1), 1);
        due.equal("2: eight more", x.feed(bytes, 8), 9);
        due.equal("2: three more", x.feed(-1L << 16 | 0x1234, 3), 12);
        for (int n : new int[] {0, 9, -1, -8, Integer.MIN_VALUE, Integer.MAX_VALUE}) {
            due.thrown("2: feed(0, " + n + ")", RANGE, () -> x.feed(0, n));
        }
        x.leaf();
        byte[] told = new byte[12];
        told[0] = (byte) 0x88;
        System.arraycopy(Model.eight(bytes), 0, told, 1, 8);
        told[9] = (byte) 0xff;
        told[10] = 0x12;
        told[11] = 0x34;
        due.equal("2: the highest of the lowest n goes first",
                Sample.leafHex(x, 0), Sample.hex(Model.leafDigest(told)));
        due.equal("2: the tape is used up", x.feed(bytes, 1), 1);
    }

    private void promise2FeedHasRoomFor200() {
        ProofLeaves x = new ProofLeaves();
        for (int i = 1; i <= 24; i++) {
            due.equal("2: eight more", x.feed(i, 8), 8 * i);
        }
        x.feed(7, 1);
        due.thrown("2: 193 and 8", MEANING, () -> x.feed(0, 8));
        due.equal("2: 193 and 7, as before it", x.feed(0, 7), 200);
        due.thrown("2: 200 and 1", MEANING, () -> x.feed(0, 1));
        due.thrown("2: range goes ahead of meaning", RANGE, () -> x.feed(0, 0));
        due.thrown("2: range goes ahead of meaning", RANGE, () -> x.feed(0, Integer.MAX_VALUE));
        x.leaf();
        due.equal("2: room again", x.feed(0, 8), 8);
    }

    private void promise3Leaf() {
        ProofLeaves x = new ProofLeaves();
        due.equal("3: leaf of an empty tape", x.leaf(), 0);
        due.equal("3: its digest", Sample.leafHex(x, 0), Sample.OF_EMPTY_LEAF);
        x.feed('a', 1);
        x.feed('b' << 8 | 'c', 2);
        due.equal("3: the next number", x.leaf(), 1);
        due.equal("3: a byte 0 goes ahead", Sample.leafHex(x, 1),
                Sample.hex(Model.leafDigest("abc".getBytes(StandardCharsets.US_ASCII))));
        due.equal("3: the same bytes may come again", x.leaf(), 2);
        due.equal("3: the tape was used up", Sample.leafHex(x, 2), Sample.OF_EMPTY_LEAF);
    }

    // The padding goes into a block of its own, or not, by the length alone.
    private void promise3LeafOfEveryLength() {
        for (int length = 0; length <= 200; length++) {
            ProofLeaves x = new ProofLeaves();
            byte[] bytes = new byte[length];
            for (int i = 0; i < length; i++) {
                bytes[i] = (byte) (255 - i);
                x.feed(bytes[i], 1);
            }
            x.leaf();
            due.equal("3: a leaf of " + length + " bytes", Sample.leafHex(x, 0), Sample.hex(Model.leafDigest(bytes)));
        }
    }

    private void promise3AtMost24() {
        ProofLeaves x = new ProofLeaves();
        for (int leaf = 0; leaf < 24; leaf++) {
            due.equal("3: leaf()", x.leaf(), leaf);
        }
        x.feed(5, 3);
        due.thrown("3: a 25th leaf", MEANING, x::leaf);
        due.equal("3: the tape stays", x.feed(5, 1), 4);
        due.thrown("3: no leaf came of it", INDEX, () -> x.digest(24, 0));
        due.thrown("3: a 25th leaf again", MEANING, x::leaf);
    }

    private void promise4Close() {
        ProofLeaves x = new ProofLeaves();
        for (int day = 0; day < 12; day++) {
            due.equal("4: close()", x.close(), day);
            x.leaf();
        }
        String latest = Sample.rootHex(x, 11);
        due.thrown("4: a 13th day", MEANING, x::close);
        due.thrown("4: no day came of it", INDEX, () -> x.count(12));
        due.equal("4: the latest stays", x.count(11), 11);
        due.equal("4: the latest root stays", Sample.rootHex(x, 11), latest);
        due.equal("4: leaves may still come", x.leaf(), 12);

        ProofLeaves y = new ProofLeaves();
        y.feed(1, 4);
        y.close();
        due.equal("4: the tape is left alone", y.feed(1, 1), 5);
    }

    private void promise5Root() {
        ProofLeaves x = new ProofLeaves();
        x.close();
        due.equal("5: of no leaves", Sample.rootHex(x, 0), Sample.OF_NO_BYTES);
        x.leaf();
        x.close();
        due.equal("5: of one leaf its digest", Sample.rootHex(x, 1), Sample.OF_EMPTY_LEAF);
        x.feed(0, 1);
        x.leaf();
        x.close();
        due.equal("5: of two leaves their node",
                Sample.rootHex(x, 2), Sample.hex(Model.node(Sample.leafBytes(x, 0), Sample.leafBytes(x, 1))));
        due.equal("5: an earlier day's root stays", Sample.rootHex(x, 0), Sample.OF_NO_BYTES);
        for (int i : NO_BYTES) {
            due.thrown("5: root(0, " + i + ")", INDEX, () -> x.root(0, i));
        }
        for (int day : new int[] {-1, 3, 12, Integer.MIN_VALUE, Integer.MAX_VALUE}) {
            due.thrown("5: root(" + day + ", 0)", INDEX, () -> x.root(day, 0));
        }
    }

    private void promise5RootOfEveryCount() {
        for (int n = 0; n <= 24; n++) {
            ProofLeaves x = Sample.withLeaves(n);
            x.close();
            due.equal("5: root of " + n + " leaves",
                    Sample.rootHex(x, 0), Sample.hex(Model.tree(Sample.plainLeaves(n))));
        }
    }

    private void promise6Digest() {
        ProofLeaves x = Sample.withLeaves(3);
        for (int leaf = 0; leaf < 3; leaf++) {
            due.equal("6: digest of leaf " + leaf,
                    Sample.leafHex(x, leaf), Sample.hex(Model.leafDigest(new byte[] {(byte) leaf})));
        }
        for (int i : NO_BYTES) {
            due.thrown("6: digest(0, " + i + ")", INDEX, () -> x.digest(0, i));
        }
        for (int leaf : new int[] {-1, 3, 24, Integer.MIN_VALUE, Integer.MAX_VALUE}) {
            due.thrown("6: digest(" + leaf + ", 0)", INDEX, () -> x.digest(leaf, 0));
        }
    }

    private void promise7Count() {
        ProofLeaves x = new ProofLeaves();
        x.close();
        Sample.addLeaves(x, 3);
        x.close();
        x.close();
        Sample.addLeaves(x, 21);
        x.close();
        due.equal("7: no leaves", x.count(0), 0);
        due.equal("7: three leaves", x.count(1), 3);
        due.equal("7: none more", x.count(2), 3);
        due.equal("7: all leaves", x.count(3), 24);
        for (int day : new int[] {-1, 4, 12, Integer.MIN_VALUE, Integer.MAX_VALUE}) {
            due.thrown("7: count(" + day + ")", INDEX, () -> x.count(day));
        }
    }

    private void promise8Prove() {
        ProofLeaves x = new ProofLeaves();
        x.close();
        Sample.addLeaves(x, 1);
        x.close();
        Sample.addLeaves(x, 1);
        x.close();
        due.equal("8: of one leaf none", x.prove(0, 1), 0);
        due.equal("8: of two leaves one", x.prove(1, 2), 1);
        String latest = Sample.proofHex(x, 0);
        due.thrown("8: the leaf came later", TURN, () -> x.prove(1, 1));
        due.thrown("8: no leaf came before", TURN, () -> x.prove(0, 0));
        due.thrown("8: no such leaf, ahead of turn", INDEX, () -> x.prove(2, 0));
        due.thrown("8: no such leaf", INDEX, () -> x.prove(-1, 1));
        due.thrown("8: no such day", INDEX, () -> x.prove(0, 3));
        due.thrown("8: no such day", INDEX, () -> x.prove(0, -1));
        due.thrown("8: neither", INDEX, () -> x.prove(Integer.MAX_VALUE, Integer.MIN_VALUE));
        due.equal("8: the latest proof stays behind a throw", Sample.proofHex(x, 0), latest);
        due.thrown("8: and is no longer", INDEX, () -> x.proof(1, 0));
        x.poke(0, 3, 4);
        due.equal("8: a made proof stays as it was made", Sample.proofHex(x, 0), latest);
        x.prove(1, 2);
        due.equal("8: a new one is of leaves as they stand", Sample.proofHex(x, 0), Sample.leafHex(x, 0));
    }

    private void promise8EveryProof() {
        for (int n = 1; n <= 24; n++) {
            for (int leaf = 0; leaf < n; leaf++) {
                ProofLeaves x = Sample.withLeaves(n);
                x.close();
                String what = "8: leaf " + leaf + " of " + n;
                List<byte[]> path = Model.path(leaf, Sample.plainLeaves(n));
                due.equal(what, x.prove(leaf, 0), path.size());
                for (int k = 0; k < path.size(); k++) {
                    due.equal(what + ", digest " + k, Sample.proofHex(x, k), Sample.hex(path.get(k)));
                }
                due.equal(what + ", checked", x.check(leaf, 0, leaf, n), 0);
            }
        }
    }

    private void promise9Proof() {
        ProofLeaves x = Sample.withLeaves(7);
        x.close();
        x.prove(6, 0);
        byte[] second = Model.node(Sample.leafBytes(x, 4), Sample.leafBytes(x, 5));
        byte[] first = Model.tree(Sample.firstLeaves(x, 4));
        due.equal("9: the innermost first", Sample.proofHex(x, 0), Sample.hex(second));
        due.equal("9: the outermost last", Sample.proofHex(x, 1), Sample.hex(first));
        for (int i : NO_BYTES) {
            due.thrown("9: proof(0, " + i + ")", INDEX, () -> x.proof(0, i));
        }
        for (int k : new int[] {-1, 2, 5, Integer.MIN_VALUE, Integer.MAX_VALUE}) {
            due.thrown("9: proof(" + k + ", 0)", INDEX, () -> x.proof(k, 0));
        }
        x.prove(0, 0);
        due.equal("9: only the latest", Sample.proofHex(x, 0), Sample.leafHex(x, 1));
    }

    private void promise10Bend() {
        ProofLeaves x = Sample.withLeaves(5);
        x.close();
        x.prove(1, 0);
        int before = x.proof(1, 31);
        String others = Sample.proofHex(x, 0) + Sample.proofHex(x, 2);
        x.bend(1, 31, 255);
        due.equal("10: bent", x.proof(1, 31), before ^ 255);
        x.bend(1, 31, 1);
        due.equal("10: bent again", x.proof(1, 31), before ^ 254);
        due.equal("10: the others stay", Sample.proofHex(x, 0) + Sample.proofHex(x, 2), others);
        due.equal("10: the checker sees it", x.check(1, 0, 1, 5), 3);
        for (int mask : NO_MASKS) {
            due.thrown("10: bend(0, 0, " + mask + ")", RANGE, () -> x.bend(0, 0, mask));
            due.thrown("10: index ahead of range", INDEX, () -> x.bend(3, 0, mask));
            due.thrown("10: index ahead of range", INDEX, () -> x.bend(0, 32, mask));
        }
        for (int i : NO_BYTES) {
            due.thrown("10: bend(0, " + i + ", 1)", INDEX, () -> x.bend(0, i, 1));
        }
        due.thrown("10: bend(-1, 0, 1)", INDEX, () -> x.bend(-1, 0, 1));
        due.equal("10: nothing was bent by these", Sample.proofHex(x, 0) + Sample.proofHex(x, 2), others);
        x.bend(1, 31, 254);
        due.equal("10: bent back", x.check(1, 0, 1, 5), 0);
        due.equal("10: a leaf's digest is left alone", Sample.leafHex(x, 0), Sample.proofHex(x, 0));
        x.bend(0, 0, 128);
        due.equal("10: a leaf's digest is left alone",
                Sample.leafHex(x, 0), Sample.hex(Model.leafDigest(new byte[] {0})));
        x.prove(0, 0);
        x.prove(1, 0);
        due.equal("10: a new proof is straight", x.check(1, 0, 1, 5), 0);
        ProofLeaves one = Sample.withLeaves(1);
        one.close();
        one.prove(0, 0);
        due.thrown("10: a proof of no digests", INDEX, () -> one.bend(0, 0, 1));
    }

    private void promise11Check() {
        ProofLeaves x = Sample.withLeaves(6);
        x.close();
        due.thrown("11: there is no proof", TURN, () -> x.check(0, 0, 0, 6));
        due.thrown("11: turn ahead of range", TURN, () -> x.check(0, 0, -1, 6));
        due.thrown("11: index ahead of turn", INDEX, () -> x.check(6, 0, 0, 6));
        due.thrown("11: index ahead of turn", INDEX, () -> x.check(0, 1, 0, 6));
        x.leaf();
        x.close();
        x.prove(5, 0);
        due.equal("11: right", x.check(5, 0, 5, 6), 0);
        due.equal("11: the count is not the day's", x.check(5, 0, 5, 7), 1);
        due.equal("11: the count is not that day's", x.check(5, 1, 5, 6), 1);
        due.equal("11: the count ahead of the length", x.check(5, 0, 0, 7), 1);
        due.equal("11: a great count", x.check(5, 0, Integer.MAX_VALUE - 1, Integer.MAX_VALUE), 1);
        due.equal("11: another length", x.check(5, 0, 0, 6), 2);
        due.equal("11: another length on the other day", x.check(5, 1, 5, 7), 2);
        due.equal("11: another number", x.check(5, 0, 4, 6), 3);
        due.equal("11: another leaf", x.check(4, 0, 5, 6), 3);
        due.equal("11: a later leaf may be told", x.check(6, 0, 5, 6), 3);
        for (int[] told : new int[][] {{6, 6}, {-1, 6}, {7, 6}, {0, 0}, {0, -1}, {-2, -1}, {-1, 0},
                {Integer.MIN_VALUE, 6}, {Integer.MAX_VALUE, Integer.MAX_VALUE}, {0, Integer.MIN_VALUE}}) {
            due.thrown("11: check(5, 0, " + told[0] + ", " + told[1] + ")", RANGE,
                    () -> x.check(5, 0, told[0], told[1]));
        }
        due.thrown("11: index ahead of range", INDEX, () -> x.check(7, 0, 6, 6));
        due.thrown("11: index ahead of range", INDEX, () -> x.check(-1, 0, 6, 6));
        due.thrown("11: index ahead of range", INDEX, () -> x.check(5, 2, 6, 6));
        due.thrown("11: index ahead of range", INDEX, () -> x.check(5, -1, 6, 6));
        x.poke(5, 0, 1);
        due.equal("11: the leaf's digest as it stands", x.check(5, 0, 5, 6), 3);
        x.poke(5, 0, 1);
        due.equal("11: poked back", x.check(5, 0, 5, 6), 0);

        ProofLeaves one = Sample.withLeaves(1);
        one.close();
        one.prove(0, 0);
        due.equal("11: a proof of no digests is one", one.check(0, 0, 0, 1), 0);
    }

    private void promise11EveryToldNumber() {
        for (int n = 1; n <= 24; n++) {
            for (int leaf = 0; leaf < n; leaf++) {
                ProofLeaves x = Sample.withLeaves(n);
                x.close();
                int length = x.prove(leaf, 0);
                for (int number = 0; number < n; number++) {
                    int want = number == leaf ? 0 : Model.due(number, n) != length ? 2 : 3;
                    due.equal("11: leaf " + leaf + " told as " + number + " of " + n,
                            x.check(leaf, 0, number, n), want);
                }
            }
        }
    }

    private void promise12Grew() {
        ProofLeaves x = new ProofLeaves();
        x.close();
        Sample.addLeaves(x, 3);
        x.close();
        x.close();
        Sample.addLeaves(x, 4);
        x.close();
        for (int from = 0; from < 4; from++) {
            for (int to = from; to < 4; to++) {
                due.equal("12: grew(" + from + ", " + to + ")", x.grew(from, to) ? 1 : 0, 1);
            }
        }
        x.poke(5, 0, 1);
        due.equal("12: the later day's own root", x.grew(1, 3) ? 1 : 0, 0);
        due.equal("12: before the poked leaf", x.grew(1, 2) ? 1 : 0, 1);
        due.equal("12: a poked leaf of a day alone", x.grew(3, 3) ? 1 : 0, 0);
        x.poke(5, 0, 1);
        x.poke(0, 31, 128);
        x.close();
        due.equal("12: the earlier day's root", x.grew(1, 4) ? 1 : 0, 0);
        due.equal("12: of no leaves", x.grew(0, 4) ? 1 : 0, 1);
        due.equal("12: no leaves to a poked day", x.grew(0, 1) ? 1 : 0, 0);
        due.thrown("12: the first is later", RANGE, () -> x.grew(2, 1));
        due.thrown("12: index ahead of range", INDEX, () -> x.grew(5, 1));
        for (int day : new int[] {-1, 5, 12, Integer.MIN_VALUE, Integer.MAX_VALUE}) {
            due.thrown("12: grew(" + day + ", 0)", INDEX, () -> x.grew(day, 0));
            due.thrown("12: grew(0, " + day + ")", INDEX, () -> x.grew(0, day));
        }
    }

    private void promise13Withdraw() {
        ProofLeaves x = Sample.withLeaves(23);
        x.feed(0, 1);
        x.leaf();
        for (int leaf : new int[] {-1, 24, Integer.MIN_VALUE, Integer.MAX_VALUE}) {
            due.thrown("13: withdraw(" + leaf + ")", INDEX, () -> x.withdraw(leaf));
        }
        for (int n = 1; n <= 24; n++) {
            int leaf = 24 - n;
            due.equal("13: withdraw(" + leaf + ")", x.withdraw(leaf), n);
            due.thrown("13: it is already", MEANING, () -> x.withdraw(leaf));
            due.thrown("13: it is not absent", TURN, () -> x.absence(leaf, 0));
        }
        ProofLeaves y = Sample.withLeaves(2);
        due.equal("13: one", y.withdraw(0), 1);
        due.thrown("13: one again", MEANING, () -> y.withdraw(0));
        due.equal("13: a throw counts none", y.withdraw(1), 2);
        y.leaf();
        due.equal("13: a later one", y.withdraw(2), 3);
    }

    private void promise14Absence() {
        ProofLeaves x = Sample.withDigests(new int[][] {{100, 0}, {200, 0}, {100, 9}, {50, 255}, {255, 1}});
        due.equal("14: none withdrawn, below", x.absence(0, 0), -1);
        due.equal("14: none withdrawn, above", x.absence(0, 1), -1);
        x.withdraw(1);
        x.withdraw(3);
        due.equal("14: below 100.0", x.absence(0, 0), 3);
        due.equal("14: above 100.0, bytes are not signed", x.absence(0, 1), 1);
        due.equal("14: below 255.1", x.absence(4, 0), 1);
        due.equal("14: above 255.1", x.absence(4, 1), -1);
        x.withdraw(2);
        due.equal("14: the last byte tells too, above", x.absence(0, 1), 2);
        due.equal("14: the last byte tells too, below", x.absence(0, 0), 3);
        due.equal("14: the greatest below", x.absence(4, 0), 1);
        due.thrown("14: it is withdrawn", TURN, () -> x.absence(2, 0));
        due.thrown("14: index ahead of turn", INDEX, () -> x.absence(2, 2));
        for (int side : new int[] {-1, 2, Integer.MIN_VALUE, Integer.MAX_VALUE}) {
            due.thrown("14: absence(0, " + side + ")", INDEX, () -> x.absence(0, side));
        }
        for (int leaf : new int[] {-1, 5, 24, Integer.MIN_VALUE, Integer.MAX_VALUE}) {
            due.thrown("14: absence(" + leaf + ", 0)", INDEX, () -> x.absence(leaf, 0));
        }
        x.poke(3, 0, 50 ^ 101);
        due.equal("14: digests as they stand, below", x.absence(0, 0), -1);
        due.equal("14: digests as they stand, above", x.absence(0, 1), 2);
    }

    private void promise14SameDigests() {
        ProofLeaves x = Sample.withDigests(new int[][] {{9, 0}, {5, 0}, {7, 0}, {5, 0}, {9, 0}, {7, 0}, {7, 0}});
        x.withdraw(4);
        x.withdraw(3);
        due.equal("14: one below", x.absence(2, 0), 3);
        due.equal("14: one above", x.absence(2, 1), 4);
        x.withdraw(1);
        x.withdraw(0);
        due.equal("14: of the same the lowest, below", x.absence(2, 0), 1);
        due.equal("14: of the same the lowest, above", x.absence(2, 1), 0);
        x.withdraw(5);
        due.equal("14: a withdrawn one of its own digest is not below it", x.absence(2, 0), 1);
        due.equal("14: nor above it", x.absence(2, 1), 0);
        due.equal("14: nor for a later leaf", x.absence(6, 0), 1);
    }

    private void promise15Mark() {
        long[][] keys = {{0, 0}, {1, 2}, {2, 1}, {-1, Long.MIN_VALUE}, {0x0123456789abcdefL, 0xfedcba9876543210L}};
        for (long[] key : keys) {
            ProofLeaves x = Sample.withLeaves(2);
            for (int leaf = 0; leaf < 2; leaf++) {
                byte[] inner = Model.sha(Model.eight(key[0]), Sample.leafBytes(x, leaf));
                byte[] want = Model.sha(Model.eight(key[1]), inner);
                for (int i = 0; i < 32; i++) {
                    due.equal("15: mark(" + leaf + ", " + key[0] + ", " + key[1] + ", " + i + ")",
                            x.mark(leaf, key[0], key[1], i), want[i] & 255);
                }
            }
        }
        ProofLeaves x = Sample.withLeaves(2);
        x.poke(1, 4, 8);
        byte[] inner = Model.sha(Model.eight(3), Sample.leafBytes(x, 1));
        due.equal("15: of the digest as it stands", x.mark(1, 3, 4, 0), Model.sha(Model.eight(4), inner)[0] & 255);
        for (int i : NO_BYTES) {
            due.thrown("15: mark(0, 1, 2, " + i + ")", INDEX, () -> x.mark(0, 1, 2, i));
        }
        for (int leaf : new int[] {-1, 2, 24, Integer.MIN_VALUE, Integer.MAX_VALUE}) {
            due.thrown("15: mark(" + leaf + ", 1, 2, 0)", INDEX, () -> x.mark(leaf, 1, 2, 0));
        }
    }

    private void promise16Poke() {
        ProofLeaves x = Sample.withLeaves(3);
        x.close();
        String root = Sample.rootHex(x, 0);
        int before = x.digest(1, 31);
        String others = Sample.leafHex(x, 0) + Sample.leafHex(x, 2);
        x.poke(1, 31, 255);
        due.equal("16: poked", x.digest(1, 31), before ^ 255);
        x.poke(1, 31, 1);
        due.equal("16: poked again", x.digest(1, 31), before ^ 254);
        due.equal("16: other leaves stay", Sample.leafHex(x, 0) + Sample.leafHex(x, 2), others);
        due.equal("16: a day's root stays", Sample.rootHex(x, 0), root);
        x.close();
        due.equal("16: a new day is of digests as they stand",
                Sample.rootHex(x, 1), Sample.hex(Model.tree(Sample.firstLeaves(x, 3))));
        for (int mask : NO_MASKS) {
            due.thrown("16: poke(0, 0, " + mask + ")", RANGE, () -> x.poke(0, 0, mask));
            due.thrown("16: index ahead of range", INDEX, () -> x.poke(3, 0, mask));
            due.thrown("16: index ahead of range", INDEX, () -> x.poke(0, 32, mask));
        }
        for (int i : NO_BYTES) {
            due.thrown("16: poke(0, " + i + ", 1)", INDEX, () -> x.poke(0, i, 1));
        }
        for (int leaf : new int[] {-1, 3, 24, Integer.MIN_VALUE, Integer.MAX_VALUE}) {
            due.thrown("16: poke(" + leaf + ", 0, 1)", INDEX, () -> x.poke(leaf, 0, 1));
        }
        due.equal("16: nothing was poked by these", Sample.leafHex(x, 0) + Sample.leafHex(x, 2), others);

        ProofLeaves one = Sample.withLeaves(1);
        one.close();
        String alone = Sample.rootHex(one, 0);
        one.poke(0, 0, 77);
        due.equal("16: the root of one leaf stays too", Sample.rootHex(one, 0), alone);
    }
}
