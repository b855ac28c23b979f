import java.util.Random;

/** Long runs of drawn calls, each answered by the class and by the model alike. */
public final class ModelTest {
    private static final int RUNS = 3000;
    // What an object answers after these is free.
    private static final int CALLS = 512;

    private final Due due;
    private final Random random;
    private final ProofLeaves real = new ProofLeaves();
    private final Model model = new Model();
    private final int leavesAhead;
    private int calls = 0;
    private int leaves = 0;
    private int days = 0;

    private ModelTest(Due due, long seed) {
        this.due = due;
        this.random = new Random(seed);
        this.leavesAhead = random.nextInt(25);
    }

    public static void main(String[] args) {
        Due due = new Due();
        for (int run = 0; run < RUNS; run++) {
            new ModelTest(due, run).run(run);
        }
        due.end();
    }

    private void run(int run) {
        while (calls < CALLS) {
            one("run " + run + ", call " + calls + ": ");
        }
    }

    private void same(String what, Due.Call byReal, Due.Call byModel) {
        if (calls >= CALLS) {
            return;
        }
        calls++;
        due.equal(what, Due.outcome(byReal), Due.outcome(byModel));
    }

    private int near(int count) {
        int drawn = random.nextInt(40);
        if (drawn == 0) {
            return count;
        }
        if (drawn == 1) {
            return -1;
        }
        if (drawn == 2) {
            return random.nextInt();
        }
        return count == 0 ? 0 : random.nextInt(count);
    }

    private int mask() {
        return random.nextInt(12) == 0 ? 256 * (random.nextInt(3) - 1) : 1 + random.nextInt(255);
    }

    private long bytes() {
        return random.nextInt(3) == 0 ? random.nextLong() : random.nextInt(3);
    }

    private void one(String where) {
        if (leaves < leavesAhead && random.nextInt(2) == 0) {
            grow(where, random.nextInt(8));
            return;
        }
        int kind = random.nextInt(20);
        if (kind < 3) {
            grow(where, random.nextInt(8));
        } else if (kind < 12) {
            look(where, kind);
        } else {
            change(where, kind);
        }
    }

    private void grow(String where, int kind) {
        if (kind < 3) {
            long bytes = bytes();
            int n = near(9);
            same(where + "feed(" + bytes + ", " + n + ")", () -> real.feed(bytes, n), () -> model.feed(bytes, n));
        } else if (kind < 7) {
            same(where + "leaf()", real::leaf, model::leaf);
            leaves = Math.min(24, leaves + 1);
        } else {
            same(where + "close()", real::close, model::close);
            days = Math.min(12, days + 1);
        }
    }

    private void look(String where, int kind) {
        int leaf = near(leaves);
        int day = near(days);
        int i = near(32);
        int k = near(5);
        long key = bytes();
        long key2 = bytes();
        int to = near(days);
        int side = near(2);
        switch (kind) {
            case 3 -> same(where + "root(" + day + ", " + i + ")", () -> real.root(day, i), () -> model.root(day, i));
            case 4 -> same(where + "digest(" + leaf + ", " + i + ")",
                    () -> real.digest(leaf, i), () -> model.digest(leaf, i));
            case 5 -> same(where + "count(" + day + ")", () -> real.count(day), () -> model.count(day));
            case 6, 7 -> same(where + "proof(" + k + ", " + i + ")", () -> real.proof(k, i), () -> model.proof(k, i));
            case 8 -> same(where + "mark(" + leaf + ", " + key + ", " + key2 + ", " + i + ")",
                    () -> real.mark(leaf, key, key2, i), () -> model.mark(leaf, key, key2, i));
            case 9 -> same(where + "grew(" + day + ", " + to + ")",
                    () -> real.grew(day, to) ? 1 : 0, () -> model.grew(day, to) ? 1 : 0);
            default -> same(where + "absence(" + leaf + ", " + side + ")",
                    () -> real.absence(leaf, side), () -> model.absence(leaf, side));
        }
    }

    private void change(String where, int kind) {
        int leaf = near(leaves);
        int day = near(days);
        int i = near(32);
        int k = near(3);
        int mask = mask();
        switch (kind) {
            case 12, 13 -> proveAndCheck(where, leaf, day);
            case 14, 15 -> checkTold(where, leaf, day);
            case 16 -> same(where + "bend(" + k + ", " + i + ", " + mask + ")",
                    () -> done(() -> real.bend(k, i, mask)), () -> done(() -> model.bend(k, i, mask)));
            case 17 -> pokeTwice(where, leaf, i, mask);
            default -> same(where + "withdraw(" + leaf + ")", () -> real.withdraw(leaf), () -> model.withdraw(leaf));
        }
    }

    private void proveAndCheck(String where, int leaf, int day) {
        same(where + "prove(" + leaf + ", " + day + ")", () -> real.prove(leaf, day), () -> model.prove(leaf, day));
        int count = day >= 0 && day < days ? model.count(day) : near(24);
        same(where + "check(" + leaf + ", " + day + ", " + leaf + ", " + count + ")",
                () -> real.check(leaf, day, leaf, count), () -> model.check(leaf, day, leaf, count));
    }

    private void checkTold(String where, int leaf, int day) {
        boolean dayIs = day >= 0 && day < days;
        int count = dayIs && random.nextInt(4) != 0 ? model.count(day) : near(25);
        int number = near(Math.max(0, count));
        same(where + "check(" + leaf + ", " + day + ", " + number + ", " + count + ")",
                () -> real.check(leaf, day, number, count), () -> model.check(leaf, day, number, count));
    }

    // Mostly poked back at once, or soon no day's root would stand in any run.
    private void pokeTwice(String where, int leaf, int i, int mask) {
        int times = random.nextInt(8) == 0 ? 1 : 2;
        for (int time = 0; time < times; time++) {
            same(where + "poke(" + leaf + ", " + i + ", " + mask + ")",
                    () -> done(() -> real.poke(leaf, i, mask)), () -> done(() -> model.poke(leaf, i, mask)));
            look(where, 3 + random.nextInt(9));
        }
    }

    private static long done(Due.Deed deed) {
        deed.run();
        return 0;
    }
}
