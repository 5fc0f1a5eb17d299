import java.util.ArrayList;
import java.util.List;

/**
 * A run of calls on a new object, for a sentence of the document. It refuses a call behind the 512th,
 * whose answer the document leaves free, so that no test asks for more than is promised.
 */
final class Run {
    static final int MOST_CALLS = 512;
    private static final int CALLS_TOLD = 16;

    private final Due due;
    private final String sentence;
    private final RedoJournal journal = new RedoJournal();
    private final List<String> calls = new ArrayList<>();

    Run(Due due, String sentence) {
        this.due = due;
        this.sentence = sentence;
    }

    int lay(int ring) {
        call("lay", ring);
        return journal.lay(ring);
    }

    int write(int block, int at, int n, int value) {
        call("write", block, at, n, value);
        return journal.write(block, at, n, value);
    }

    int read(int block, int at) {
        call("read", block, at);
        return journal.read(block, at);
    }

    int forget(int block) {
        call("forget", block);
        return journal.forget(block);
    }

    int direct(int block, int value) {
        call("direct", block, value);
        return journal.direct(block, value);
    }

    int commit() {
        call("commit");
        return journal.commit();
    }

    int clear() {
        call("clear");
        return journal.clear();
    }

    int fuse(int n) {
        call("fuse", n);
        return journal.fuse(n);
    }

    int fail() {
        call("fail");
        return journal.fail();
    }

    int mount(long bits) {
        call("mount", bits);
        return journal.mount(bits);
    }

    int count(int which) {
        call("count", which);
        return journal.count(which);
    }

    /** What the last call answered, and what it should have. */
    void is(int got, int want) {
        if (got == want) {
            due.is(sentence, got, want);
        } else {
            due.is(sentence + ": " + lastCalls(), got, want);
        }
    }

    void counts(int... want) {
        for (int which = 0; which < want.length; which++) {
            is(count(which), want[which]);
        }
    }

    /** The edges of a block's halves: all that power can cut. */
    void blockIs(int block, int first, int last) {
        is(read(block, 0), first);
        is(read(block, 127), first);
        is(read(block, 128), last);
        is(read(block, 255), last);
    }

    void blockIs(int block, int value) {
        blockIs(block, value, value);
    }

    void writeWhole(int from, int n, int value) {
        for (int block = from; block < from + n; block++) {
            write(block, 0, 256, value);
        }
    }

    void forgetAll(int from, int n) {
        for (int block = from; block < from + n; block++) {
            forget(block);
        }
    }

    /** A commit of so many whole blocks from one on, and its answer. */
    int commitWhole(int from, int n, int value) {
        writeWhole(from, n, value);
        return commit();
    }

    int callsMade() {
        return calls.size();
    }

    private void call(String name, long... arguments) {
        StringBuilder text = new StringBuilder(name).append('(');
        for (int i = 0; i < arguments.length; i++) {
            text.append(i == 0 ? "" : ", ").append(arguments[i]);
        }
        calls.add(text.append(')').toString());
        if (calls.size() > MOST_CALLS) {
            throw new IllegalStateException(sentence + ": a test of more than " + MOST_CALLS + " calls");
        }
    }

    private String lastCalls() {
        int from = Math.max(0, calls.size() - CALLS_TOLD);
        String before = from == 0 ? "" : ".. " + from + " calls before .. ";
        return before + String.join(" ", calls.subList(from, calls.size()));
    }
}
