import java.util.Map;
import java.util.Random;
import java.util.TreeMap;

/** Long runs of calls, good and bad, whose every answer is compared with the model's. */
final class RandomRunsTest {
    private static final int RUNS = 12000;
    private static final int[] ODD = {Integer.MIN_VALUE, -257, -2, -1, 29, 39, 40, 63, 64, 128, 200, 201, 255, 256, 257, 100000, 100001, Integer.MAX_VALUE};
    private static final String[] MUST_BE_SEEN = {
        "write finds the transaction full", "write takes a revoke back", "forget finds the revokes full",
        "direct finds the block taken", "power fails in direct with 0 under way", "power fails in direct with 1 under way",
        "commit of nothing", "commit clears first", "power fails in commit", "clear of an empty log", "power fails in clear",
        "power fails in mount", "clearing brings a block home that is being forgotten",
        "mount leaves a revoked block alone", "mount brings a block home twice", "home block under way behind the 32nd",
        "commit under way, down with 0", "commit under way, down with 1", "commit under way, down with 2", "commit under way, down with 3",
        "head under way, down with 0", "head under way, down with 1", "head under way, down with 2", "head under way, down with 3",
        "home under way, down with 0", "home under way, down with 1", "home under way, down with 2", "home under way, down with 3",
        "ring under way, down with 0", "ring under way, down with 3",
    };

    private final Random random;
    private final Run journal;
    private final Model model = new Model();
    private final int blocks;
    private final int eagerness;
    /** How much less often than usual steps are made, so that transactions grow to their full size. */
    private final int patience;

    private RandomRunsTest(Due due, int seed) {
        random = new Random(seed);
        journal = due.run("random run " + seed);
        blocks = new int[] {3, 12, 64, 64}[random.nextInt(4)];
        eagerness = 6 + random.nextInt(60);
        patience = random.nextBoolean() ? 0 : 36 + random.nextInt(4);
        both(journal.lay(40 + seed % 161), model.lay(40 + seed % 161));
    }

    public static void main(String[] args) {
        Due due = new Due();
        Map<String, Integer> seen = new TreeMap<>();
        for (int seed = 1; seed <= RUNS; seed++) {
            RandomRunsTest run = new RandomRunsTest(due, seed);
            run.callTillTheEnd();
            run.model.seen.forEach((what, times) -> seen.merge(what, times, Integer::sum));
        }
        for (String what : MUST_BE_SEEN) {
            due.holds("the random runs come upon: " + what, seen.containsKey(what));
        }
        due.end();
    }

    private void callTillTheEnd() {
        int callsAtTheEnd = 8 + 2 * blocks;
        int mostCallsAtOnce = 34;
        while (journal.callsMade() + mostCallsAtOnce + callsAtTheEnd <= Run.MOST_CALLS) {
            call();
            int which = random.nextInt(16);
            if (which <= 6) {
                both(journal.count(which), model.count(which));
            }
        }
        for (int which = 0; which <= 6; which++) {
            both(journal.count(which), model.count(which));
        }
        compareBytes();
    }

    private void both(int got, int want) {
        journal.is(got, want);
    }

    private int block() {
        return random.nextInt(60) == 0 ? odd() : random.nextInt(blocks);
    }

    private int odd() {
        return ODD[random.nextInt(ODD.length)];
    }

    private int usually(int value) {
        return random.nextInt(60) == 0 ? odd() : value;
    }

    private void call() {
        int kind = random.nextInt(100 - patience);
        if (model.count(0) == RedoJournal.OFF && random.nextInt(3) == 0) {
            mount();
        } else if (blocks == 64 && random.nextInt(30) == 0) {
            largeTransaction();
        } else if (kind < 45 - patience / 3) {
            write();
        } else if (kind < 60 - patience / 3) {
            int block = block();
            both(journal.forget(block), model.forget(block));
        } else if (kind < 66 - patience / 3) {
            int block = block();
            int value = usually(random.nextInt(256));
            both(journal.direct(block, value), model.direct(block, value));
        } else if (kind < 72 - patience / 3) {
            int block = block();
            int at = usually(random.nextInt(256));
            both(journal.read(block, at), model.read(block, at));
        } else {
            stepsAndPower();
        }
    }

    private void largeTransaction() {
        boolean forgets = random.nextInt(3) == 0;
        int from = random.nextInt(33);
        for (int block = from; block < from + 31; block++) {
            if (forgets) {
                both(journal.forget(block), model.forget(block));
            } else {
                both(journal.write(block, 0, 256, from), model.write(block, 0, 256, from));
            }
        }
        both(journal.commit(), model.commit());
    }

    private void stepsAndPower() {
        int kind = random.nextInt(eagerness);
        if (kind == 0) {
            both(journal.clear(), model.clear());
        } else if (kind == 1) {
            both(journal.fail(), model.fail());
        } else if (kind == 2 || kind == 3) {
            int n = usually(random.nextInt(random.nextBoolean() ? 8 : 80));
            both(journal.fuse(n), model.fuse(n));
            useUpTheFuse();
        } else if (kind == 4 && random.nextInt(20) == 0) {
            int ring = usually(40 + random.nextInt(161));
            both(journal.lay(ring), model.lay(ring));
        } else if (kind == 5) {
            int which = odd();
            both(journal.count(which), model.count(which));
        } else if (kind % 2 == 0) {
            both(journal.commit(), model.commit());
        } else {
            mount();
        }
    }

    /** Calls of many steps next, or none. */
    private void useUpTheFuse() {
        int kind = random.nextInt(4);
        if (kind == 0) {
            both(journal.clear(), model.clear());
        } else if (kind > 1) {
            both(journal.fail(), model.fail());
            mount();
        }
    }

    private void mount() {
        long bits = random.nextInt(4) == 0 ? random.nextInt(4) : random.nextLong();
        both(journal.mount(bits), model.mount(bits));
        if (blocks <= 12 && random.nextInt(3) == 0) {
            compareBytes();
        }
    }

    private void write() {
        int block = block();
        int at = usually(random.nextInt(256));
        int n = usually(1 + random.nextInt(random.nextBoolean() ? 256 : 9));
        int value = usually(random.nextInt(256));
        both(journal.write(block, at, n, value), model.write(block, at, n, value));
    }

    /** A byte of each half of each block that the run is about. */
    private void compareBytes() {
        for (int block = 0; block < blocks; block++) {
            int at = random.nextInt(128);
            both(journal.read(block, at), model.read(block, at));
            both(journal.read(block, at + 128), model.read(block, at + 128));
        }
    }
}
