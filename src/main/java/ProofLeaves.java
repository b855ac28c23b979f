/**
 * Certificates as leaves of a growing tree of SHA-256 digests: days with roots, proofs and their
 * checker, growth, withdrawn leaves with absence by two neighbours, and keyed marks.
 *
 * <p>Every row is made once, in the constructor, and used again: no call makes an object, except
 * the exception that it throws.
 */
public final class ProofLeaves {
    private static final int DIGEST_BYTES = 32;
    private static final int MOST_TAPE = 200;
    private static final int MOST_LEAVES = 24;
    private static final int MOST_DAYS = 12;
    // Five halvings bring 24 leaves down to one, and each gives a proof one digest at most.
    private static final int LONGEST_PROOF = 5;
    private static final int NO_PROOF = -1;
    private static final int NO_LEAF = -1;
    private static final int BELOW = 0;
    private static final int ABOVE = 1;
    // The byte ahead keeps a leaf's bytes from passing for a node's.
    private static final int LEAF_SIGN = 0;
    private static final int NODE_SIGN = 1;

    private final Sha256 sha;
    private final int[] tape;
    private int tapeLength;
    private final int[][] leafDigests;
    private final boolean[] isWithdrawn;
    private int leafCount;
    private int withdrawnCount;
    private final int[][] dayRoots;
    private final int[] dayCounts;
    private int dayCount;
    private final int[][] path;
    private int pathLength;
    private final int[][] level;
    private final int[] made;

    public ProofLeaves() {
        sha = new Sha256();
        tape = new int[MOST_TAPE];
        tapeLength = 0;
        leafDigests = new int[MOST_LEAVES][DIGEST_BYTES];
        isWithdrawn = new boolean[MOST_LEAVES];
        leafCount = 0;
        withdrawnCount = 0;
        dayRoots = new int[MOST_DAYS][DIGEST_BYTES];
        dayCounts = new int[MOST_DAYS];
        dayCount = 0;
        path = new int[LONGEST_PROOF][DIGEST_BYTES];
        pathLength = NO_PROOF;
        level = new int[MOST_LEAVES][DIGEST_BYTES];
        made = new int[DIGEST_BYTES];
    }

    public int feed(long bytes, int n) throws IllegalArgumentException, UnsupportedOperationException {
        if (n < 1 || n > 8) {
            throw new IllegalArgumentException("n is not 1 .. 8");
        }
        if (tapeLength + n > MOST_TAPE) {
            throw new UnsupportedOperationException("the tape would have more than 200 bytes");
        }
        for (int behind = n - 1; behind >= 0; behind--) {
            tape[tapeLength] = (int) (bytes >>> (8 * behind)) & 255;
            tapeLength++;
        }
        return tapeLength;
    }

    public int leaf() throws UnsupportedOperationException {
        if (leafCount >= MOST_LEAVES) {
            throw new UnsupportedOperationException("there are 24 leaves");
        }
        sha.begin();
        sha.take(LEAF_SIGN);
        sha.takeFirst(tape, tapeLength);
        sha.finishInto(leafDigests[leafCount]);
        tapeLength = 0;
        leafCount++;
        return leafCount - 1;
    }

    public int close() throws UnsupportedOperationException {
        if (dayCount >= MOST_DAYS) {
            throw new UnsupportedOperationException("there are 12 days");
        }
        treeInto(leafCount, dayRoots[dayCount]);
        dayCounts[dayCount] = leafCount;
        dayCount++;
        return dayCount - 1;
    }

    public int root(int day, int i) throws IndexOutOfBoundsException {
        requireDay(day);
        requireByte(i);
        return dayRoots[day][i];
    }

    public int digest(int leaf, int i) throws IndexOutOfBoundsException {
        requireLeaf(leaf);
        requireByte(i);
        return leafDigests[leaf][i];
    }

    public int count(int day) throws IndexOutOfBoundsException {
        requireDay(day);
        return dayCounts[day];
    }

    public int prove(int leaf, int day) throws IndexOutOfBoundsException, IllegalStateException {
        requireLeaf(leaf);
        requireDay(day);
        if (leaf >= dayCounts[day]) {
            throw new IllegalStateException("the leaf came after the day");
        }
        makePath(leaf, dayCounts[day]);
        return pathLength;
    }

    public int proof(int k, int i) throws IndexOutOfBoundsException {
        requirePathDigest(k);
        requireByte(i);
        return path[k][i];
    }

    public void bend(int k, int i, int mask) throws IndexOutOfBoundsException, IllegalArgumentException {
        requirePathDigest(k);
        requireByte(i);
        requireMask(mask);
        path[k][i] ^= mask;
    }

    public int check(int leaf, int day, int number, int count)
            throws IndexOutOfBoundsException, IllegalStateException, IllegalArgumentException {
        requireLeaf(leaf);
        requireDay(day);
        if (pathLength == NO_PROOF) {
            throw new IllegalStateException("there is no proof");
        }
        if (number < 0 || number >= count) {
            throw new IllegalArgumentException("the number told is not 0 .. the count told - 1");
        }
        if (count != dayCounts[day]) {
            return 1;
        }
        if (pathLength != dueLength(number, count)) {
            return 2;
        }
        climb(leafDigests[leaf], number, count);
        return compareDigests(made, dayRoots[day]) == 0 ? 0 : 3;
    }

    public boolean grew(int from, int to) throws IndexOutOfBoundsException, IllegalArgumentException {
        requireDay(from);
        requireDay(to);
        if (from > to) {
            throw new IllegalArgumentException("the first day is later than the second");
        }
        return stillMakesRoot(from) && stillMakesRoot(to);
    }

    public int withdraw(int leaf) throws IndexOutOfBoundsException, UnsupportedOperationException {
        requireLeaf(leaf);
        if (isWithdrawn[leaf]) {
            throw new UnsupportedOperationException("the leaf is withdrawn already");
        }
        isWithdrawn[leaf] = true;
        withdrawnCount++;
        return withdrawnCount;
    }

    public int absence(int leaf, int side) throws IndexOutOfBoundsException, IllegalStateException {
        requireLeaf(leaf);
        if (side != BELOW && side != ABOVE) {
            throw new IndexOutOfBoundsException("no such side");
        }
        if (isWithdrawn[leaf]) {
            throw new IllegalStateException("the leaf is withdrawn");
        }
        return nearestWithdrawn(leaf, side);
    }

    public int mark(int leaf, long key, long key2, int i) throws IndexOutOfBoundsException {
        requireLeaf(leaf);
        requireByte(i);
        keyedInto(key, leafDigests[leaf], made);
        keyedInto(key2, made, made);
        return made[i];
    }

    public void poke(int leaf, int i, int mask) throws IndexOutOfBoundsException, IllegalArgumentException {
        requireLeaf(leaf);
        requireByte(i);
        requireMask(mask);
        leafDigests[leaf][i] ^= mask;
    }

    private void requireLeaf(int leaf) {
        if (leaf < 0 || leaf >= leafCount) {
            throw new IndexOutOfBoundsException("no such leaf");
        }
    }

    private void requireDay(int day) {
        if (day < 0 || day >= dayCount) {
            throw new IndexOutOfBoundsException("no such day");
        }
    }

    private void requirePathDigest(int k) {
        if (k < 0 || k >= pathLength) {
            throw new IndexOutOfBoundsException("no such digest in the proof");
        }
    }

    private static void requireByte(int i) {
        if (i < 0 || i >= DIGEST_BYTES) {
            throw new IndexOutOfBoundsException("no such byte");
        }
    }

    private static void requireMask(int mask) {
        if (mask < 1 || mask > 255) {
            throw new IllegalArgumentException("the mask is not 1 .. 255");
        }
    }

    private void treeInto(int n, int[] into) {
        if (n < 1) {
            sha.begin();
            sha.finishInto(into);
            return;
        }
        layLeaves(n);
        for (int width = n; width > 1; width -= width / 2) {
            foldLevel(width);
        }
        copyDigest(level[0], into);
    }

    private void makePath(int leaf, int n) {
        layLeaves(n);
        pathLength = 0;
        int at = leaf;
        for (int width = n; width > 1; width -= width / 2) {
            if (hasPartner(at, width)) {
                copyDigest(level[partnerOf(at)], path[pathLength]);
                pathLength++;
            }
            foldLevel(width);
            at = at / 2;
        }
    }

    private static int dueLength(int number, int count) {
        int length = 0;
        int at = number;
        for (int width = count; width > 1; width -= width / 2) {
            if (hasPartner(at, width)) {
                length++;
            }
            at = at / 2;
        }
        return length;
    }

    // The caller has seen that the path is as long as number and count make it due.
    private void climb(int[] leafDigest, int number, int count) {
        copyDigest(leafDigest, made);
        int at = number;
        int k = 0;
        for (int width = count; width > 1; width -= width / 2) {
            if (hasPartner(at, width)) {
                if (partnerOf(at) > at) {
                    nodeInto(made, path[k], made);
                } else {
                    nodeInto(path[k], made, made);
                }
                k++;
            }
            at = at / 2;
        }
    }

    private boolean stillMakesRoot(int day) {
        treeInto(dayCounts[day], made);
        return compareDigests(made, dayRoots[day]) == 0;
    }

    private void layLeaves(int n) {
        for (int i = 0; i < n; i++) {
            copyDigest(leafDigests[i], level[i]);
        }
    }

    // Cutting at the greatest power of two below n is the same as pairing from the left, level by
    // level, where an odd last digest goes up as it is: so no recursion is needed, and the level
    // above one of some width is narrower by half of it, rounded down.
    private void foldLevel(int width) {
        for (int i = 0; i + 1 < width; i += 2) {
            nodeInto(level[i], level[i + 1], level[i / 2]);
        }
        if (width % 2 == 1) {
            copyDigest(level[width - 1], level[width / 2]);
        }
    }

    private static int partnerOf(int at) {
        return at ^ 1;
    }

    private static boolean hasPartner(int at, int width) {
        return partnerOf(at) < width;
    }

    private void nodeInto(int[] left, int[] right, int[] into) {
        sha.begin();
        sha.take(NODE_SIGN);
        sha.takeFirst(left, DIGEST_BYTES);
        sha.takeFirst(right, DIGEST_BYTES);
        sha.finishInto(into);
    }

    private void keyedInto(long key, int[] digest, int[] into) {
        sha.begin();
        sha.takeLong(key);
        sha.takeFirst(digest, DIGEST_BYTES);
        sha.finishInto(into);
    }

    // The row is looked through anew each time, since a poke may change its order. Of the same
    // digests the first one found stays, as only a strictly nearer one takes its place.
    private int nearestWithdrawn(int leaf, int side) {
        int nearest = NO_LEAF;
        for (int other = 0; other < leafCount; other++) {
            if (isWithdrawn[other] && liesOn(side, other, leaf)
                    && (nearest == NO_LEAF || liesOn(side, nearest, other))) {
                nearest = other;
            }
        }
        return nearest;
    }

    private boolean liesOn(int side, int other, int leaf) {
        int order = compareDigests(leafDigests[other], leafDigests[leaf]);
        return side == BELOW ? order < 0 : order > 0;
    }

    private static int compareDigests(int[] a, int[] b) {
        for (int i = 0; i < DIGEST_BYTES; i++) {
            if (a[i] != b[i]) {
                return a[i] < b[i] ? -1 : 1;
            }
        }
        return 0;
    }

    private static void copyDigest(int[] from, int[] to) {
        System.arraycopy(from, 0, to, 0, DIGEST_BYTES);
    }

    /** SHA-256 of FIPS 180-4 over one message at a time, kept whole until it is finished. */
    private static final class Sha256 {
        private static final int BLOCK_BYTES = 64;
        private static final int ROUNDS = 64;
        private static final int WORDS = 8;
        // Four blocks: the longest message is a leaf's sign and a full tape, 201 bytes, and the
        // padding takes 9 bytes more at least.
        private static final int MESSAGE_ROOM = 256;

        private static final int[] FIRST_STATE = {
            0x6a09e667, 0xbb67ae85, 0x3c6ef372, 0xa54ff53a,
            0x510e527f, 0x9b05688c, 0x1f83d9ab, 0x5be0cd19
        };

        private static final int[] ROUND_CONSTANTS = {
            0x428a2f98, 0x71374491, 0xb5c0fbcf, 0xe9b5dba5, 0x3956c25b, 0x59f111f1, 0x923f82a4, 0xab1c5ed5,
            0xd807aa98, 0x12835b01, 0x243185be, 0x550c7dc3, 0x72be5d74, 0x80deb1fe, 0x9bdc06a7, 0xc19bf174,
            0xe49b69c1, 0xefbe4786, 0x0fc19dc6, 0x240ca1cc, 0x2de92c6f, 0x4a7484aa, 0x5cb0a9dc, 0x76f988da,
            0x983e5152, 0xa831c66d, 0xb00327c8, 0xbf597fc7, 0xc6e00bf3, 0xd5a79147, 0x06ca6351, 0x14292967,
            0x27b70a85, 0x2e1b2138, 0x4d2c6dfc, 0x53380d13, 0x650a7354, 0x766a0abb, 0x81c2c92e, 0x92722c85,
            0xa2bfe8a1, 0xa81a664b, 0xc24b8b70, 0xc76c51a3, 0xd192e819, 0xd6990624, 0xf40e3585, 0x106aa070,
            0x19a4c116, 0x1e376c08, 0x2748774c, 0x34b0bcb5, 0x391c0cb3, 0x4ed8aa4a, 0x5b9cca4f, 0x682e6ff3,
            0x748f82ee, 0x78a5636f, 0x84c87814, 0x8cc70208, 0x90befffa, 0xa4506ceb, 0xbef9a3f7, 0xc67178f2
        };

        private final int[] message;
        private int length;
        private final int[] words;
        private final int[] state;

        Sha256() {
            message = new int[MESSAGE_ROOM];
            length = 0;
            words = new int[ROUNDS];
            state = new int[WORDS];
        }

        void begin() {
            length = 0;
        }

        void take(int oneByte) {
            if (length < MESSAGE_ROOM) {
                message[length] = oneByte;
                length++;
            }
        }

        void takeFirst(int[] row, int n) {
            for (int i = 0; i < n; i++) {
                take(row[i]);
            }
        }

        void takeLong(long value) {
            for (int shift = 56; shift >= 0; shift -= 8) {
                take((int) (value >>> shift) & 255);
            }
        }

        void finishInto(int[] into) {
            long bits = 8L * length;
            int zeros = Math.floorMod(BLOCK_BYTES - 9 - length, BLOCK_BYTES);
            take(128);
            for (int i = 0; i < zeros; i++) {
                take(0);
            }
            takeLong(bits);
            System.arraycopy(FIRST_STATE, 0, state, 0, WORDS);
            for (int from = 0; from + BLOCK_BYTES <= length; from += BLOCK_BYTES) {
                spreadBlock(from);
                stirState();
            }
            for (int i = 0; i < DIGEST_BYTES; i++) {
                into[i] = state[i / 4] >>> (24 - 8 * (i % 4)) & 255;
            }
        }

        private void spreadBlock(int from) {
            for (int t = 0; t < 16; t++) {
                int at = from + 4 * t;
                words[t] = message[at] << 24 | message[at + 1] << 16 | message[at + 2] << 8 | message[at + 3];
            }
            for (int t = 16; t < ROUNDS; t++) {
                int x = words[t - 15];
                int y = words[t - 2];
                int sigma0 = Integer.rotateRight(x, 7) ^ Integer.rotateRight(x, 18) ^ x >>> 3;
                int sigma1 = Integer.rotateRight(y, 17) ^ Integer.rotateRight(y, 19) ^ y >>> 10;
                words[t] = sigma1 + words[t - 7] + sigma0 + words[t - 16];
            }
        }

        private void stirState() {
            int a = state[0];
            int b = state[1];
            int c = state[2];
            int d = state[3];
            int e = state[4];
            int f = state[5];
            int g = state[6];
            int h = state[7];
            for (int t = 0; t < ROUNDS; t++) {
                int sum1 = Integer.rotateRight(e, 6) ^ Integer.rotateRight(e, 11) ^ Integer.rotateRight(e, 25);
                int choice = e & f ^ ~e & g;
                int first = h + sum1 + choice + ROUND_CONSTANTS[t] + words[t];
                int sum0 = Integer.rotateRight(a, 2) ^ Integer.rotateRight(a, 13) ^ Integer.rotateRight(a, 22);
                int majority = a & b ^ a & c ^ b & c;
                h = g;
                g = f;
                f = e;
                e = d + first;
                d = c;
                c = b;
                b = a;
                a = first + sum0 + majority;
            }
            state[0] += a;
            state[1] += b;
            state[2] += c;
            state[3] += d;
            state[4] += e;
            state[5] += f;
            state[6] += g;
            state[7] += h;
        }
    }
}
