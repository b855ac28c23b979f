import java.util.ArrayList;
import java.util.List;

/** Objects made ready, and digests read out of them. */
final class Sample {
    // Of FIPS 180-4 itself, and of RFC 6962's own examples: not of this program or of the library.
    static final String OF_NO_BYTES = "e3b0c44298fc1c149afbf4c8996fb92427ae41e4649b934ca495991b7852b855";
    static final String OF_EMPTY_LEAF = "6e340b9cffb37a989ca544e6bb780a2c78901d3fb33738768511a30617afa01d";

    private Sample() {
    }

    static String hex(byte[] bytes) {
        StringBuilder text = new StringBuilder();
        for (byte one : bytes) {
            text.append(String.format("%02x", one));
        }
        return text.toString();
    }

    static String leafHex(ProofLeaves x, int leaf) {
        return hex(leafBytes(x, leaf));
    }

    static byte[] leafBytes(ProofLeaves x, int leaf) {
        byte[] bytes = new byte[32];
        for (int i = 0; i < 32; i++) {
            bytes[i] = (byte) x.digest(leaf, i);
        }
        return bytes;
    }

    static String rootHex(ProofLeaves x, int day) {
        byte[] bytes = new byte[32];
        for (int i = 0; i < 32; i++) {
            bytes[i] = (byte) x.root(day, i);
        }
        return hex(bytes);
    }

    static String proofHex(ProofLeaves x, int k) {
        byte[] bytes = new byte[32];
        for (int i = 0; i < 32; i++) {
            bytes[i] = (byte) x.proof(k, i);
        }
        return hex(bytes);
    }

    static String markHex(ProofLeaves x, int leaf, long key, long key2) {
        byte[] bytes = new byte[32];
        for (int i = 0; i < 32; i++) {
            bytes[i] = (byte) x.mark(leaf, key, key2, i);
        }
        return hex(bytes);
    }

    static List<byte[]> firstLeaves(ProofLeaves x, int n) {
        List<byte[]> leaves = new ArrayList<>();
        for (int leaf = 0; leaf < n; leaf++) {
            leaves.add(leafBytes(x, leaf));
        }
        return leaves;
    }

    /** The digests of the leaves that withLeaves makes, without a call. */
    static List<byte[]> plainLeaves(int n) {
        List<byte[]> leaves = new ArrayList<>();
        for (int leaf = 0; leaf < n; leaf++) {
            leaves.add(Model.leafDigest(new byte[] {(byte) leaf}));
        }
        return leaves;
    }

    /** Leaves of one byte each: 0, 1, .. */
    static ProofLeaves withLeaves(int n) {
        ProofLeaves x = new ProofLeaves();
        addLeaves(x, n);
        return x;
    }

    static void addLeaves(ProofLeaves x, int n) {
        for (int leaf = 0; leaf < n; leaf++) {
            x.feed(leaf, 1);
            x.leaf();
        }
    }

    /** Bytes more on the tape, one at a time: 1, 2, .. */
    static void fillTape(ProofLeaves x, int bytes) {
        for (int at = 0; at < bytes; at++) {
            x.feed(at + 1, 1);
        }
    }

    /** The bytes that fillTape feeds. */
    static byte[] tapeBytes(int bytes) {
        byte[] told = new byte[bytes];
        for (int at = 0; at < bytes; at++) {
            told[at] = (byte) (at + 1);
        }
        return told;
    }

    /** Leaves whose digests are poked to 0 but for the first byte and the last. */
    static ProofLeaves withDigests(int[]... firstAndLast) {
        ProofLeaves x = new ProofLeaves();
        for (int leaf = 0; leaf < firstAndLast.length; leaf++) {
            x.leaf();
            for (int i = 0; i < 32; i++) {
                setByte(x, leaf, i, i == 0 ? firstAndLast[leaf][0] : i == 31 ? firstAndLast[leaf][1] : 0);
            }
        }
        return x;
    }

    static void setByte(ProofLeaves x, int leaf, int i, int want) {
        int mask = x.digest(leaf, i) ^ want;
        if (mask != 0) {
            x.poke(leaf, i, mask);
        }
    }
}
