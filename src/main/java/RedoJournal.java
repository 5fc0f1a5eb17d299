import java.util.Arrays;

/**
 * A disk whose writes come down when they like till a barrier, and a redo journal on it.
 *
 * <p>Sets of home blocks are longs, a bit for each of the 64 blocks. The ring's bytes themselves are
 * never looked at by a call of the face, so only what they mean is held: the transactions of the log.
 */
public final class RedoJournal {
    public static final int OFF = -1, BAD = -2;

    private static final int BLOCKS = 64;
    private static final int BYTES = 256;
    private static final int HALF = 128;
    private static final int LEAST_RING = 40;
    private static final int MOST_RING = 200;
    private static final int MOST_OF_A_TRANSACTION = 30;
    private static final int TAGS_OF_A_DESCRIPTOR = 28;
    private static final int NO_FUSE = -1;
    private static final int MOST_FUSE = 100000;

    private final Disk disk;
    private final Log log;
    private final byte[] now;
    private int ringBlocks;
    /** The blocks of the running transaction, and those that it revokes. */
    private long running;
    private long revoked;

    public RedoJournal() {
        disk = new Disk();
        log = new Log();
        now = new byte[BLOCKS * BYTES];
        ringBlocks = LEAST_RING;
    }

    public int lay(int ring) {
        if (ring < LEAST_RING || ring > MOST_RING) {
            return BAD;
        }
        disk.makeNew();
        log.makeEmpty();
        Arrays.fill(now, (byte) 0);
        ringBlocks = ring;
        dropRunning();
        return ring;
    }

    public int write(int block, int at, int n, int value) {
        if (!disk.on) {
            return OFF;
        }
        if (!isByte(block, at) || n < 1 || n > BYTES - at || !isValue(value)) {
            return BAD;
        }
        if (!holds(running, block) && Long.bitCount(running) >= MOST_OF_A_TRANSACTION) {
            return BAD;
        }
        int from = block * BYTES + at;
        Arrays.fill(now, from, from + n, (byte) value);
        running |= bit(block);
        revoked &= ~bit(block);
        return Long.bitCount(running);
    }

    public int read(int block, int at) {
        if (!disk.on) {
            return OFF;
        }
        if (!isByte(block, at)) {
            return BAD;
        }
        return now[block * BYTES + at] & 255;
    }

    public int forget(int block) {
        if (!disk.on) {
            return OFF;
        }
        if (!isHome(block)) {
            return BAD;
        }
        if (!holds(revoked, block) && Long.bitCount(revoked) >= MOST_OF_A_TRANSACTION) {
            return BAD;
        }
        running &= ~bit(block);
        revoked |= bit(block);
        System.arraycopy(disk.written, block * BYTES, now, block * BYTES, BYTES);
        return Long.bitCount(revoked);
    }

    public int direct(int block, int value) {
        if (!disk.on) {
            return OFF;
        }
        if (!isHome(block) || !isValue(value)) {
            return BAD;
        }
        if (holds(running | revoked | log.lying(), block)) {
            return BAD;
        }
        // Power that fails below makes mount() set now anew, so it may be set before the steps.
        Arrays.fill(now, block * BYTES, (block + 1) * BYTES, (byte) value);
        if (disk.barrier() && disk.writeHome(block, now, block * BYTES) && disk.barrier()) {
            return 0;
        }
        return OFF;
    }

    public int commit() {
        if (!disk.on) {
            return OFF;
        }
        if ((running | revoked) == 0) {
            return 0;
        }
        int use = useOfRunning();
        if (log.used() + use > ringBlocks - 1 && bringLogHome() == OFF) {
            return OFF;
        }
        return writeTransaction(use) ? use : OFF;
    }

    public int clear() {
        if (!disk.on) {
            return OFF;
        }
        return log.size == 0 ? 0 : bringLogHome();
    }

    public int fuse(int n) {
        if (!disk.on) {
            return OFF;
        }
        if (n < NO_FUSE || n > MOST_FUSE) {
            return BAD;
        }
        int left = disk.stepsLeft;
        disk.stepsLeft = n;
        return left;
    }

    public int fail() {
        if (!disk.on) {
            return OFF;
        }
        disk.on = false;
        return disk.underWay;
    }

    public int mount(long bits) {
        if (disk.on) {
            return BAD;
        }
        settleLog(bits);
        disk.settle(bits);
        disk.on = true;
        dropRunning();
        int came = log.size == 0 ? 0 : replay();
        // If the fuse ended it, nobody can read this before the next mount() sets it anew.
        System.arraycopy(disk.written, 0, now, 0, BLOCKS * BYTES);
        return came;
    }

    public int count(int which) {
        if (!disk.on) {
            return OFF;
        }
        switch (which) {
            case 0:
                return log.size;
            case 1:
                return log.used();
            case 2:
                return Long.bitCount(log.lying());
            case 3:
                return Long.bitCount(running);
            case 4:
                return Long.bitCount(revoked);
            case 5:
                return disk.steps;
            case 6:
                return disk.underWay;
            default:
                return BAD;
        }
    }

    private static boolean isHome(int block) {
        return block >= 0 && block < BLOCKS;
    }

    private static boolean isByte(int block, int at) {
        return isHome(block) && at >= 0 && at < BYTES;
    }

    private static boolean isValue(int value) {
        return value >= 0 && value <= 255;
    }

    private static long bit(int block) {
        return 1L << block;
    }

    private static boolean holds(long blocks, int block) {
        return (blocks & bit(block)) != 0;
    }

    private void dropRunning() {
        running = 0;
        revoked = 0;
    }

    private int useOfRunning() {
        int blocks = Long.bitCount(running);
        int descriptors = (blocks + TAGS_OF_A_DESCRIPTOR - 1) / TAGS_OF_A_DESCRIPTOR;
        int revokes = revoked == 0 ? 0 : 1;
        return blocks + descriptors + revokes + 1;
    }

    /** False if power failed on the way, as with all that makes steps. */
    private boolean writeTransaction(int use) {
        for (int i = 1; i < use; i++) {
            if (!disk.writeRing(Disk.BODY)) {
                return false;
            }
        }
        if (!disk.barrier() || !disk.writeRing(Disk.COMMIT)) {
            return false;
        }
        log.append(running, revoked, use, now);
        dropRunning();
        return disk.barrier();
    }

    /** Clearing: how many blocks came home, or OFF. */
    private int bringLogHome() {
        long lying = log.lying();
        for (int block = 0; block < BLOCKS; block++) {
            if (holds(lying, block) && !disk.writeHome(block, log.images, log.latestImage(block))) {
                return OFF;
            }
        }
        return endLog() ? Long.bitCount(lying) : OFF;
    }

    /** The part of mounting that makes steps: how many blocks came home, or OFF. */
    private int replay() {
        int came = 0;
        for (int t = 0; t < log.size; t++) {
            long living = log.living(t);
            for (int block = 0; block < BLOCKS; block++) {
                if (!holds(living, block)) {
                    continue;
                }
                if (!disk.writeHome(block, log.images, log.imageOf(t, block))) {
                    return OFF;
                }
                came++;
            }
        }
        return endLog() ? came : OFF;
    }

    private boolean endLog() {
        if (!disk.barrier() || !disk.writeRing(Disk.HEAD) || !disk.barrier()) {
            return false;
        }
        // Only here, since a head that was under way when power failed may not be down.
        log.makeEmpty();
        return true;
    }

    private void settleLog(long bits) {
        int commit = disk.placeUnderWay(Disk.COMMIT);
        if (commit >= 0 && !Disk.isFirstHalfDown(commit, bits)) {
            log.dropLatest();
        }
        int head = disk.placeUnderWay(Disk.HEAD);
        if (head >= 0 && Disk.isFirstHalfDown(head, bits)) {
            log.makeEmpty();
        }
    }

    /** The home blocks' bytes, what is under way, power and its fuse. */
    private static final class Disk {
        /** What a block under way is if it is none of the home blocks 0 .. 63. */
        static final int BODY = 64, COMMIT = 65, HEAD = 66;

        static final int PLACES_WITH_BITS = 32;

        /** Home blocks as they were at the last barrier, and as they were last written. */
        final byte[] down = new byte[BLOCKS * BYTES];
        final byte[] written = new byte[BLOCKS * BYTES];

        /** Never full: home blocks stand in it once, and no transaction has as many blocks as the ring. */
        final int[] order = new int[BLOCKS + MOST_RING];
        int underWay;
        long homesUnderWay;

        boolean on = true;
        int stepsLeft = NO_FUSE;
        int steps;

        void makeNew() {
            Arrays.fill(down, (byte) 0);
            Arrays.fill(written, (byte) 0);
            forgetUnderWay();
            on = true;
            stepsLeft = NO_FUSE;
            steps = 0;
        }

        boolean writeHome(int block, byte[] bytes, int from) {
            if (!isHome(block) || from < 0 || from > bytes.length - BYTES || !makeStep()) {
                return false;
            }
            System.arraycopy(bytes, from, written, block * BYTES, BYTES);
            if (!holds(homesUnderWay, block)) {
                homesUnderWay |= bit(block);
                putUnderWay(block);
            }
            return true;
        }

        boolean writeRing(int kind) {
            if (!makeStep()) {
                return false;
            }
            putUnderWay(kind);
            return true;
        }

        boolean barrier() {
            if (!makeStep()) {
                return false;
            }
            for (int place = 0; place < underWay; place++) {
                bringDown(order[place], 0, BYTES);
            }
            forgetUnderWay();
            return true;
        }

        /** What is not down of the blocks under way is lost. */
        void settle(long bits) {
            for (int place = 0; place < underWay; place++) {
                int block = order[place];
                if (isFirstHalfDown(place, bits)) {
                    bringDown(block, 0, HALF);
                }
                if (isLastHalfDown(place, bits)) {
                    bringDown(block, HALF, HALF);
                }
                if (isHome(block)) {
                    System.arraycopy(down, block * BYTES, written, block * BYTES, BYTES);
                }
            }
            forgetUnderWay();
        }

        /** Where the first block of this kind stands among those under way, or -1. */
        int placeUnderWay(int kind) {
            for (int place = 0; place < underWay; place++) {
                if (order[place] == kind) {
                    return place;
                }
            }
            return -1;
        }

        static boolean isFirstHalfDown(int place, long bits) {
            int part = partDown(place, bits);
            return part == 1 || part == 2;
        }

        static boolean isLastHalfDown(int place, long bits) {
            int part = partDown(place, bits);
            return part == 1 || part == 3;
        }

        static int partDown(int place, long bits) {
            // A shift by 64 or more would begin anew at the lowest bits.
            return place < PLACES_WITH_BITS ? (int) (bits >>> (2 * place)) & 3 : 0;
        }

        void bringDown(int block, int at, int n) {
            if (isHome(block)) {
                int from = block * BYTES + at;
                System.arraycopy(written, from, down, from, n);
            }
        }

        void putUnderWay(int block) {
            if (underWay < order.length) {
                order[underWay] = block;
                underWay++;
            }
        }

        void forgetUnderWay() {
            underWay = 0;
            homesUnderWay = 0;
        }

        boolean makeStep() {
            if (stepsLeft == 0) {
                on = false;
                stepsLeft = NO_FUSE;
                return false;
            }
            if (stepsLeft > 0) {
                stepsLeft--;
            }
            steps++;
            return true;
        }
    }

    /** The transactions that are in the ring, the oldest first. */
    private static final class Log {
        /** Rows with a place for each transaction; every one takes two of the ring's blocks or more. */
        final long[] blocks = new long[MOST_RING / 2];
        final long[] revokes = new long[MOST_RING / 2];
        final int[] uses = new int[MOST_RING / 2];
        final int[] firstImages = new int[MOST_RING / 2];
        int size;

        /** The blocks' bytes, one behind another, those of a transaction by their numbers. */
        final byte[] images = new byte[MOST_RING * BYTES];
        int imagesUsed;

        void makeEmpty() {
            size = 0;
            imagesUsed = 0;
        }

        void append(long has, long revoked, int use, byte[] now) {
            // The ring's size keeps both far from their ends.
            if (size >= blocks.length || imagesUsed + Long.bitCount(has) > MOST_RING) {
                return;
            }
            blocks[size] = has;
            revokes[size] = revoked;
            uses[size] = use;
            firstImages[size] = imagesUsed;
            size++;
            for (int block = 0; block < BLOCKS; block++) {
                if (holds(has, block)) {
                    System.arraycopy(now, block * BYTES, images, imagesUsed * BYTES, BYTES);
                    imagesUsed++;
                }
            }
        }

        void dropLatest() {
            if (size > 0) {
                size--;
                imagesUsed = firstImages[size];
            }
        }

        int used() {
            int sum = 0;
            for (int t = 0; t < size; t++) {
                sum += uses[t];
            }
            return sum;
        }

        /** The blocks that lie in the log. */
        long lying() {
            long lying = 0;
            for (int t = 0; t < size; t++) {
                lying = (lying & ~revokes[t]) | blocks[t];
            }
            return lying;
        }

        /** The blocks of a transaction that neither it nor a later one revoked. */
        long living(int transaction) {
            if (transaction < 0 || transaction >= size) {
                return 0;
            }
            long living = blocks[transaction];
            for (int t = transaction; t < size; t++) {
                living &= ~revokes[t];
            }
            return living;
        }

        /** Where the bytes of a transaction's block begin among the images, or -1. */
        int imageOf(int transaction, int block) {
            if (transaction < 0 || transaction >= size || !holds(blocks[transaction], block)) {
                return -1;
            }
            int before = Long.bitCount(blocks[transaction] & (bit(block) - 1));
            return (firstImages[transaction] + before) * BYTES;
        }

        int latestImage(int block) {
            for (int t = size - 1; t >= 0; t--) {
                if (holds(blocks[t], block)) {
                    return imageOf(t, block);
                }
            }
            return -1;
        }
    }
}
