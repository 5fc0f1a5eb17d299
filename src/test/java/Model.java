import java.util.ArrayList;
import java.util.Arrays;
import java.util.LinkedHashMap;
import java.util.List;
import java.util.Map;
import java.util.TreeMap;
import java.util.TreeSet;

/**
 * The document's terms once more, in the plainest way and with the whole library: what the random
 * runs compare RedoJournal with. It shares no code with the class and holds its state otherwise.
 */
final class Model {
    private static final int OFF = -1;
    private static final int BAD = -2;

    private static final class PowerFails extends Exception {
        private static final long serialVersionUID = 1;
    }

    private static final class Transaction {
        final TreeMap<Integer, byte[]> blocks = new TreeMap<>();
        final TreeSet<Integer> revokes = new TreeSet<>();

        int use() {
            int tags = 0;
            for (int left = blocks.size(); left > 0; left -= 28) {
                tags++;
            }
            return blocks.size() + tags + (revokes.isEmpty() ? 0 : 1) + 1;
        }
    }

    /** What the runs came upon, so that a test can tell whether they came upon everything. */
    final Map<String, Integer> seen = new TreeMap<>();

    private byte[][] home;
    private byte[][] now;
    private final Map<String, byte[]> underWay = new LinkedHashMap<>();
    private List<Transaction> log = new ArrayList<>();
    private Transaction running;
    private int ring;
    private boolean on;
    private int fuse;
    private int steps;

    Model() {
        lay(40);
    }

    int lay(int blocks) {
        if (blocks < 40 || blocks > 200) {
            return BAD;
        }
        home = new byte[64][256];
        now = new byte[64][256];
        underWay.clear();
        log = new ArrayList<>();
        running = new Transaction();
        ring = blocks;
        on = true;
        fuse = -1;
        steps = 0;
        return blocks;
    }

    int write(int block, int at, int n, int value) {
        if (!on) {
            return OFF;
        }
        if (block < 0 || block > 63 || at < 0 || n < 1 || n > 256 || (long) at + n > 256 || value < 0 || value > 255) {
            return BAD;
        }
        if (!running.blocks.containsKey(block) && running.blocks.size() == 30) {
            return see("write finds the transaction full", BAD);
        }
        for (int i = 0; i < n; i++) {
            now[block][at + i] = (byte) value;
        }
        running.blocks.put(block, now[block]);
        if (running.revokes.remove(block)) {
            see("write takes a revoke back", 0);
        }
        return running.blocks.size();
    }

    int read(int block, int at) {
        if (!on) {
            return OFF;
        }
        return block < 0 || block > 63 || at < 0 || at > 255 ? BAD : Byte.toUnsignedInt(now[block][at]);
    }

    int forget(int block) {
        if (!on) {
            return OFF;
        }
        if (block < 0 || block > 63) {
            return BAD;
        }
        if (running.revokes.size() == 30 && !running.revokes.contains(block)) {
            return see("forget finds the revokes full", BAD);
        }
        running.blocks.remove(block);
        running.revokes.add(block);
        now[block] = home[block].clone();
        return running.revokes.size();
    }

    int direct(int block, int value) {
        if (!on) {
            return OFF;
        }
        if (block < 0 || block > 63 || value < 0 || value > 255) {
            return BAD;
        }
        if (running.blocks.containsKey(block) || running.revokes.contains(block) || lying().containsKey(block)) {
            return see("direct finds the block taken", BAD);
        }
        byte[] bytes = new byte[256];
        Arrays.fill(bytes, (byte) value);
        try {
            barrier();
            put("home " + block, bytes);
            barrier();
        } catch (PowerFails e) {
            return see("power fails in direct with " + underWay.size() + " under way", OFF);
        }
        now[block] = bytes.clone();
        return 0;
    }

    int commit() {
        if (!on) {
            return OFF;
        }
        if (running.blocks.isEmpty() && running.revokes.isEmpty()) {
            return see("commit of nothing", 0);
        }
        int use = running.use();
        try {
            if (used() + use > ring - 1) {
                see("commit clears first", 0);
                clearing();
            }
            for (int i = 0; i < use - 1; i++) {
                put("ring " + i, new byte[256]);
            }
            barrier();
            put("commit", new byte[256]);
            running.blocks.replaceAll((block, bytes) -> bytes.clone());
            log.add(running);
            running = new Transaction();
            barrier();
        } catch (PowerFails e) {
            return see("power fails in commit", OFF);
        }
        return use;
    }

    int clear() {
        if (!on) {
            return OFF;
        }
        if (log.isEmpty()) {
            return see("clear of an empty log", 0);
        }
        try {
            return clearing();
        } catch (PowerFails e) {
            return see("power fails in clear", OFF);
        }
    }

    int fuse(int n) {
        if (!on) {
            return OFF;
        }
        if (n < -1 || n > 100000) {
            return BAD;
        }
        int left = fuse;
        fuse = n;
        return left;
    }

    int fail() {
        if (!on) {
            return OFF;
        }
        on = false;
        return underWay.size();
    }

    int mount(long bits) {
        if (on) {
            return BAD;
        }
        on = true;
        settle(bits);
        running = new Transaction();
        int came = 0;
        try {
            if (!log.isEmpty()) {
                came = replay();
            }
        } catch (PowerFails e) {
            return see("power fails in mount", OFF);
        }
        now = new byte[64][];
        for (int block = 0; block < 64; block++) {
            now[block] = home[block].clone();
        }
        return came;
    }

    int count(int which) {
        if (!on) {
            return OFF;
        }
        int[] counts = {log.size(), used(), lying().size(), running.blocks.size(), running.revokes.size(), steps, underWay.size()};
        return which < 0 || which >= counts.length ? BAD : counts[which];
    }

    private int see(String what, int answer) {
        seen.merge(what, 1, Integer::sum);
        return answer;
    }

    private int used() {
        return log.stream().mapToInt(Transaction::use).sum();
    }

    private TreeMap<Integer, byte[]> lying() {
        TreeMap<Integer, byte[]> lying = new TreeMap<>();
        for (Transaction t : log) {
            lying.keySet().removeAll(t.revokes);
            lying.putAll(t.blocks);
        }
        return lying;
    }

    private int clearing() throws PowerFails {
        TreeMap<Integer, byte[]> lying = lying();
        for (Map.Entry<Integer, byte[]> e : lying.entrySet()) {
            if (running.revokes.contains(e.getKey())) {
                see("clearing brings a block home that is being forgotten", 0);
            }
            put("home " + e.getKey(), e.getValue());
        }
        endLog();
        return lying.size();
    }

    private int replay() throws PowerFails {
        int came = 0;
        for (int i = 0; i < log.size(); i++) {
            for (Map.Entry<Integer, byte[]> e : log.get(i).blocks.entrySet()) {
                boolean revoked = false;
                for (Transaction later : log.subList(i, log.size())) {
                    revoked |= later.revokes.contains(e.getKey());
                }
                if (revoked) {
                    see("mount leaves a revoked block alone", 0);
                    continue;
                }
                if (underWay.containsKey("home " + e.getKey())) {
                    see("mount brings a block home twice", 0);
                }
                put("home " + e.getKey(), e.getValue());
                came++;
            }
        }
        endLog();
        return came;
    }

    private void endLog() throws PowerFails {
        barrier();
        put("head", new byte[256]);
        barrier();
        log = new ArrayList<>();
    }

    private void settle(long bits) {
        long left = bits;
        int place = 0;
        for (Map.Entry<String, byte[]> e : underWay.entrySet()) {
            int part = place++ < 32 ? (int) (left & 3) : 0;
            left >>>= 2;
            String name = e.getKey();
            see(name.split(" ")[0] + " under way, down with " + part, 0);
            if (place > 32 && name.startsWith("home")) {
                see("home block under way behind the 32nd", 0);
            }
            if (name.equals("commit") && part != 1 && part != 2) {
                log.remove(log.size() - 1);
            }
            if (name.equals("head") && (part == 1 || part == 2)) {
                log = new ArrayList<>();
            }
            if (name.startsWith("home ")) {
                cut(home[Integer.parseInt(name.substring(5))], e.getValue(), part);
            }
        }
        underWay.clear();
    }

    private static void cut(byte[] was, byte[] is, int part) {
        for (int i = 0; i < 256; i++) {
            boolean down = part == 1 || part == 2 && i < 128 || part == 3 && i >= 128;
            was[i] = down ? is[i] : was[i];
        }
    }

    private void put(String name, byte[] bytes) throws PowerFails {
        step();
        underWay.put(name, bytes);
    }

    private void barrier() throws PowerFails {
        step();
        underWay.forEach((name, bytes) -> {
            if (name.startsWith("home ")) {
                home[Integer.parseInt(name.substring(5))] = bytes.clone();
            }
        });
        underWay.clear();
    }

    private void step() throws PowerFails {
        if (fuse == 0) {
            fuse = -1;
            on = false;
            throw new PowerFails();
        }
        fuse = fuse < 0 ? -1 : fuse - 1;
        steps++;
    }
}
