import java.io.ByteArrayOutputStream;
import java.nio.ByteBuffer;
import java.security.MessageDigest;
import java.security.NoSuchAlgorithmException;
import java.util.ArrayList;
import java.util.Arrays;
import java.util.List;

/**
 * The document's words once more, as plainly as they stand and in another way than the class: trees
 * and proofs by recursion, the withdrawn row really sorted, digests by the Java library.
 */
final class Model {
    private ByteArrayOutputStream tape = new ByteArrayOutputStream();
    private final List<byte[]> leaves = new ArrayList<>();
    private final List<Integer> counts = new ArrayList<>();
    private final List<byte[]> roots = new ArrayList<>();
    private final List<Integer> withdrawn = new ArrayList<>();
    private List<byte[]> proof = null;

    static byte[] sha(byte[]... parts) {
        try {
            MessageDigest digest = MessageDigest.getInstance("SHA-256");
            for (byte[] part : parts) {
                digest.update(part);
            }
            return digest.digest();
        } catch (NoSuchAlgorithmException e) {
            throw new AssertionError(e);
        }
    }

    static byte[] eight(long value) {
        return ByteBuffer.allocate(8).putLong(value).array();
    }

    static byte[] leafDigest(byte[] bytes) {
        return sha(new byte[] {0}, bytes);
    }

    static byte[] node(byte[] a, byte[] b) {
        return sha(new byte[] {1}, a, b);
    }

    static int cut(int n) {
        int k = 1;
        while (2 * k < n) {
            k = 2 * k;
        }
        return k;
    }

    static byte[] tree(List<byte[]> of) {
        int n = of.size();
        if (n == 0) {
            return sha();
        }
        if (n == 1) {
            return of.get(0);
        }
        int k = cut(n);
        return node(tree(of.subList(0, k)), tree(of.subList(k, n)));
    }

    static List<byte[]> path(int leaf, List<byte[]> of) {
        int n = of.size();
        if (n == 1) {
            return new ArrayList<>();
        }
        int k = cut(n);
        boolean first = leaf < k;
        List<byte[]> here = of.subList(first ? 0 : k, first ? k : n);
        List<byte[]> others = of.subList(first ? k : 0, first ? n : k);
        List<byte[]> made = path(first ? leaf : leaf - k, here);
        made.add(tree(others));
        return made;
    }

    static int due(int number, int count) {
        if (count == 1) {
            return 0;
        }
        int k = cut(count);
        return 1 + (number < k ? due(number, k) : due(number - k, count - k));
    }

    static byte[] climb(byte[] digest, int number, int count, List<byte[]> by) {
        if (count == 1) {
            return digest;
        }
        int k = cut(count);
        byte[] outermost = by.get(by.size() - 1);
        List<byte[]> inner = by.subList(0, by.size() - 1);
        return number < k
                ? node(climb(digest, number, k, inner), outermost)
                : node(outermost, climb(digest, number - k, count - k, inner));
    }

    private static void index(boolean is) {
        if (!is) {
            throw new IndexOutOfBoundsException();
        }
    }

    private static void turn(boolean is) {
        if (!is) {
            throw new IllegalStateException();
        }
    }

    private static void range(boolean is) {
        if (!is) {
            throw new IllegalArgumentException();
        }
    }

    private static void meaning(boolean is) {
        if (!is) {
            throw new UnsupportedOperationException();
        }
    }

    private boolean hasLeaf(int leaf) {
        return leaf >= 0 && leaf < leaves.size();
    }

    private boolean hasDay(int day) {
        return day >= 0 && day < counts.size();
    }

    private static boolean isByte(int i) {
        return i >= 0 && i < 32;
    }

    private boolean hasProof(int k) {
        return proof != null && k >= 0 && k < proof.size();
    }

    int feed(long bytes, int n) {
        range(n >= 1 && n <= 8);
        meaning(tape.size() + n <= 200);
        tape.write(eight(bytes), 8 - n, n);
        return tape.size();
    }

    int leaf() {
        meaning(leaves.size() < 24);
        leaves.add(leafDigest(tape.toByteArray()));
        tape = new ByteArrayOutputStream();
        return leaves.size() - 1;
    }

    int close() {
        meaning(counts.size() < 12);
        counts.add(leaves.size());
        roots.add(tree(leaves).clone());
        return counts.size() - 1;
    }

    int root(int day, int i) {
        index(hasDay(day) && isByte(i));
        return roots.get(day)[i] & 255;
    }

    int digest(int leaf, int i) {
        index(hasLeaf(leaf) && isByte(i));
        return leaves.get(leaf)[i] & 255;
    }

    int count(int day) {
        index(hasDay(day));
        return counts.get(day);
    }

    int prove(int leaf, int day) {
        index(hasLeaf(leaf) && hasDay(day));
        turn(leaf < counts.get(day));
        proof = new ArrayList<>();
        for (byte[] digest : path(leaf, leaves.subList(0, counts.get(day)))) {
            proof.add(digest.clone());
        }
        return proof.size();
    }

    int proof(int k, int i) {
        index(hasProof(k) && isByte(i));
        return proof.get(k)[i] & 255;
    }

    void bend(int k, int i, int mask) {
        index(hasProof(k) && isByte(i));
        range(mask >= 1 && mask <= 255);
        proof.get(k)[i] ^= (byte) mask;
    }

    int check(int leaf, int day, int number, int count) {
        index(hasLeaf(leaf) && hasDay(day));
        turn(proof != null);
        range(number >= 0 && number < count);
        if (count != counts.get(day)) {
            return 1;
        }
        if (due(number, count) != proof.size()) {
            return 2;
        }
        return Arrays.equals(climb(leaves.get(leaf), number, count, proof), roots.get(day)) ? 0 : 3;
    }

    boolean grew(int from, int to) {
        index(hasDay(from) && hasDay(to));
        range(from <= to);
        return Arrays.equals(tree(leaves.subList(0, counts.get(from))), roots.get(from))
                && Arrays.equals(tree(leaves.subList(0, counts.get(to))), roots.get(to));
    }

    int withdraw(int leaf) {
        index(hasLeaf(leaf));
        meaning(!withdrawn.contains(leaf));
        withdrawn.add(leaf);
        return withdrawn.size();
    }

    int absence(int leaf, int side) {
        index(hasLeaf(leaf) && (side == 0 || side == 1));
        turn(!withdrawn.contains(leaf));
        List<Integer> row = new ArrayList<>(withdrawn);
        // Ends with the neighbour that is due, whichever side is looked along.
        row.sort((a, b) -> {
            int order = Arrays.compareUnsigned(leaves.get(a), leaves.get(b));
            return order != 0 ? (side == 0 ? order : -order) : Integer.compare(b, a);
        });
        int neighbour = -1;
        for (int other : row) {
            int order = Arrays.compareUnsigned(leaves.get(other), leaves.get(leaf));
            if (side == 0 ? order < 0 : order > 0) {
                neighbour = other;
            }
        }
        return neighbour;
    }

    int mark(int leaf, long key, long key2, int i) {
        index(hasLeaf(leaf) && isByte(i));
        return sha(eight(key2), sha(eight(key), leaves.get(leaf)))[i] & 255;
    }

    void poke(int leaf, int i, int mask) {
        index(hasLeaf(leaf) && isByte(i));
        range(mask >= 1 && mask <= 255);
        leaves.get(leaf)[i] ^= (byte) mask;
    }
}
