import java.util.ArrayList;
import java.util.List;

/**
 * What a refused call leaves as it was: two objects come by the same calls to the same state, one of them
 * gets the refused calls besides, and from then on both must answer alike.
 */
final class Twins {
    interface Calls {
        void on(Run x);
    }

    private Twins() {
    }

    /** A state with something of everything: homes, a log with revokes, a running transaction, a fuse. */
    static void full(Run x) {
        x.lay(50);
        x.direct(9, 3);
        x.commitWhole(0, 3, 7);
        x.forget(1);
        x.commitWhole(2, 1, 8);
        x.writeWhole(4, 2, 5);
        x.forget(6);
        x.forget(0);
        x.fuse(1000);
    }

    static void off(Run x) {
        full(x);
        x.fail();
    }

    static void offInDirect(Run x) {
        full(x);
        x.fuse(2);
        x.direct(9, 4);
    }

    /** The commit is under way, behind 4 blocks and a barrier. */
    static void offInCommit(Run x) {
        full(x);
        x.fuse(6);
        x.commit();
    }

    /** The head is under way, behind blocks 0 and 2 and a barrier. */
    static void offInClear(Run x) {
        full(x);
        x.fuse(4);
        x.clear();
    }

    /** The head is under way, behind blocks 0 and 2, which two transactions have, and a barrier. */
    static void offInMount(Run x) {
        full(x);
        x.fuse(5);
        x.fail();
        x.mount(0);
    }

    /** Calls that must answer OFF, and do nothing else, however power came to be off. */
    static void areOff(Due due, String sentence, Calls refused) {
        stayAlike(due, sentence + ", off by fail()", Twins::off, refused);
        stayAlike(due, sentence + ", off in direct()", Twins::offInDirect, refused);
        stayAlike(due, sentence + ", off in commit()", Twins::offInCommit, refused);
        stayAlike(due, sentence + ", off in clear()", Twins::offInClear, refused);
        stayAlike(due, sentence + ", off in mount()", Twins::offInMount, refused);
    }

    static void stayAlike(Due due, String sentence, Calls before, Calls refused) {
        Run plain = due.run(sentence + " (without the refused calls)");
        before.on(plain);
        Run other = due.run(sentence + " (as it was before)");
        before.on(other);
        refused.on(other);
        List<Integer> want = tellAll(plain, null);
        tellAll(other, want);
    }

    /** All that calls can tell of a state, compared on the way if it is known what they should. */
    private static List<Integer> tellAll(Run x, List<Integer> want) {
        List<Integer> told = new ArrayList<>();
        // Power may be off, and a fuse may end the first mount().
        tell(x, x.mount(2), told, want);
        tell(x, x.mount(2), told, want);
        int left = x.fuse(-1);
        tell(x, left, told, want);
        tellCounts(x, told, want);
        tellBytes(x, 0, told, want);
        tellBytes(x, 255, told, want);
        tell(x, x.commit(), told, want);
        tellCounts(x, told, want);
        tell(x, x.clear(), told, want);
        tell(x, x.fail(), told, want);
        tell(x, x.mount(0), told, want);
        tellCounts(x, told, want);
        tellBytes(x, 128, told, want);
        return told;
    }

    private static void tellCounts(Run x, List<Integer> told, List<Integer> want) {
        for (int which = 0; which <= 6; which++) {
            tell(x, x.count(which), told, want);
        }
    }

    private static void tellBytes(Run x, int at, List<Integer> told, List<Integer> want) {
        for (int block = 0; block < 64; block++) {
            tell(x, x.read(block, at), told, want);
        }
    }

    private static void tell(Run x, int answer, List<Integer> told, List<Integer> want) {
        if (want != null) {
            x.is(answer, want.get(told.size()));
        }
        told.add(answer);
    }
}
