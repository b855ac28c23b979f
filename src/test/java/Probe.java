/**
 * Ways to look at all that an object holds: each at most 400 calls, so that a state, a refused call
 * and one probe stay within the 512 calls that an object is made for.
 */
enum Probe {
    EARLY_DIGESTS, LATE_DIGESTS, ROOTS, COUNTS_PROOF_AND_WITHDRAWN, TAPE;

    /** The answers, thrown ones too, as one text. */
    String look(ProofLeaves x) {
        StringBuilder seen = new StringBuilder();
        switch (this) {
            case EARLY_DIGESTS -> digests(x, 0, seen);
            case LATE_DIGESTS -> digests(x, 12, seen);
            case ROOTS -> roots(x, seen);
            case COUNTS_PROOF_AND_WITHDRAWN -> {
                counts(x, seen);
                proof(x, seen);
                withdrawn(x, seen);
            }
            default -> tape(x, seen);
        }
        return seen.toString();
    }

    private static void add(StringBuilder seen, Due.Call call) {
        seen.append(Due.outcome(call)).append(' ');
    }

    private static void digests(ProofLeaves x, int from, StringBuilder seen) {
        for (int at = 0; at < 12 * 32; at++) {
            int leaf = from + at / 32;
            int i = at % 32;
            add(seen, () -> x.digest(leaf, i));
        }
    }

    private static void roots(ProofLeaves x, StringBuilder seen) {
        for (int at = 0; at < 12 * 32; at++) {
            int day = at / 32;
            int i = at % 32;
            add(seen, () -> x.root(day, i));
        }
    }

    private static void counts(ProofLeaves x, StringBuilder seen) {
        for (int at = 0; at < 12; at++) {
            int day = at;
            add(seen, () -> x.count(day));
            add(seen, () -> x.check(0, day, 0, 24));
        }
    }

    private static void proof(ProofLeaves x, StringBuilder seen) {
        add(seen, () -> x.check(0, 0, 0, 1));
        for (int at = 0; at < 5 * 32; at++) {
            int k = at / 32;
            int i = at % 32;
            add(seen, () -> x.proof(k, i));
        }
    }

    // Withdrawing comes last: it tells how many are, and changes it.
    private static void withdrawn(ProofLeaves x, StringBuilder seen) {
        for (int at = 0; at < 24; at++) {
            int leaf = at;
            add(seen, () -> x.absence(leaf, 0));
            add(seen, () -> x.absence(leaf, 1));
        }
        for (int at = 0; at < 24; at++) {
            int leaf = at;
            add(seen, () -> x.withdraw(leaf));
        }
    }

    // A leaf of the tape tells its bytes, and its number and the day's how many there are.
    private static void tape(ProofLeaves x, StringBuilder seen) {
        add(seen, () -> x.feed(77, 1));
        int leaf = number(seen, x::leaf);
        int day = number(seen, x::close);
        for (int at = 0; at < 32; at++) {
            int i = at;
            add(seen, () -> x.digest(leaf, i));
            add(seen, () -> x.root(day, i));
        }
    }

    private static int number(StringBuilder seen, Due.Call call) {
        String outcome = Due.outcome(call);
        seen.append(outcome).append(' ');
        return outcome.startsWith("throws.") ? -1 : Integer.parseInt(outcome);
    }
}
