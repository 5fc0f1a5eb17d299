/** Each promise by itself: ordinary inputs, the edges that the document names, and wrong inputs. */
final class PromisesTest {
    private static final int OFF = RedoJournal.OFF;
    private static final int BAD = RedoJournal.BAD;
    private static final int LOG = 0, USED = 1, LYING = 2, RUNNING = 3, REVOKED = 4, STEPS = 5, UNDER_WAY = 6;

    private static final Due due = new Due();

    public static void main(String[] args) {
        aNewObject();
        lay();
        layIsAllNew();
        layIsDownAtOnce();
        write();
        writeFull();
        writeJoins();
        read();
        forget();
        forgetFull();
        forgetIsWhatLiesAtHome();
        direct();
        directIsRefused();
        directCutInTwo();
        commit();
        commitUse();
        commitClearsFirst();
        commitOfAsManyAsFit();
        commitOfAsManyBlocksAsFit();
        commitAgainAndAgain();
        commitLostAgainAndAgain();
        commitAtEachStep();
        clear();
        clearAgain();
        clearAtEachStep();
        clearWithNothingLying();
        fuse();
        fail();
        offComesBeforeBad();
        mount();
        mountGoesThroughAllTransactions();
        mountAtEachStep();
        mountOfTwiceWrittenBlocks();
        mountBehindThe32nd();
        count();
        due.end();
    }

    private static void is(String what, int got, int want) {
        due.is(what, got, want);
    }

    private static void counts(String what, Run x, int... want) {
        for (int which = 0; which < want.length; which++) {
            is(what + ": count(" + which + ")", x.count(which), want[which]);
        }
    }

    private static void blockIs(String what, Run x, int block, int first, int last) {
        for (int at : new int[] {0, 127, 128, 255}) {
            is(what + ": read(" + block + ", " + at + ")", x.read(block, at), at < 128 ? first : last);
        }
    }

    private static void writeWhole(Run x, int from, int n, int value) {
        for (int block = from; block < from + n; block++) {
            x.write(block, 0, 256, value);
        }
    }

    /** An object whose log has one transaction, of n blocks from 0 on, all bytes a value. */
    private static Run withLog(int n, int value) {
        Run x = due.run("withLog");
        writeWhole(x, 0, n, value);
        x.commit();
        return x;
    }

    private static void aNewObject() {
        Run x = due.run("aNewObject");
        counts("new", x, 0, 0, 0, 0, 0, 0, 0, BAD);
        for (int block = 0; block < 64; block++) {
            blockIs("new", x, block, 0, 0);
        }
        is("new: mount, power being on", x.mount(0), BAD);
        is("new: no fuse", x.fuse(-1), -1);
        writeWhole(x, 0, 30, 1);
        is("new: 33 of the ring's 40", x.commit(), 33);
        writeWhole(x, 30, 4, 1);
        is("new: 39 of the ring's 40", x.commit(), 6);
        is("new: 39 fit", x.count(LOG), 2);
        writeWhole(x, 40, 1, 1);
        is("new: 42 of the ring's 40", x.commit(), 3);
        is("new: 42 do not fit", x.count(LOG), 1);
    }

    private static void lay() {
        Run x = due.run("lay");
        for (int ring : new int[] {40, 41, 199, 200}) {
            is("lay(" + ring + ")", x.lay(ring), ring);
        }
        for (int ring : new int[] {Integer.MIN_VALUE, -1, 0, 39, 201, Integer.MAX_VALUE}) {
            is("lay(" + ring + ")", x.lay(ring), BAD);
        }
        for (int i = 0; i < 66; i++) {
            x.write(i % 64, 0, 1, 1);
            x.commit();
        }
        is("a bad lay leaves the ring's size", x.count(USED), 198);
        x.fail();
        is("a bad lay while power is off", x.lay(39), BAD);
        is("it stays off", x.count(LOG), OFF);
    }

    private static void layIsAllNew() {
        Run x = withLog(3, 7);
        x.clear();
        writeWhole(x, 2, 3, 8);
        x.commit();
        writeWhole(x, 5, 1, 9);
        x.forget(6);
        x.fuse(1);
        is("lay with all there is", x.lay(50), 50);
        counts("laid", x, 0, 0, 0, 0, 0, 0, 0);
        is("laid: no fuse", x.fuse(-1), -1);
        for (int block = 0; block < 8; block++) {
            blockIs("laid", x, block, 0, 0);
        }
        x.fail();
        is("laid: nothing at home", x.mount(-1), 0);
        for (int block = 0; block < 8; block++) {
            blockIs("laid", x, block, 0, 0);
        }
        x.fuse(2);
        is("power fails with a block under way", x.direct(3, 9), OFF);
        is("lay while power is off", x.lay(40), 40);
        counts("laid anew", x, 0, 0, 0, 0, 0, 0, 0);
        x.fail();
        is("laid anew: nothing was under way", x.mount(-1), 0);
        is("laid anew: all 0s", x.read(3, 0), 0);
    }

    private static void layIsDownAtOnce() {
        Run x = due.run("layIsDownAtOnce");
        x.direct(3, 9);
        x.lay(40);
        x.fuse(2);
        is("power fails with a block under way", x.direct(3, 5), OFF);
        is("it is not down", x.mount(0), 0);
        blockIs("it is as it was laid", x, 3, 0, 0);
    }

    private static void write() {
        Run x = due.run("write");
        is("first block", x.write(0, 0, 1, 255), 1);
        is("same block", x.write(0, 255, 1, 1), 1);
        is("last block", x.write(63, 0, 256, 3), 2);
        is("the end of a block", x.write(1, 250, 6, 4), 3);
        is("its byte", x.read(0, 0), 255);
        is("the byte behind it", x.read(0, 1), 0);
        is("the last byte", x.read(0, 255), 1);
        is("before the end", x.read(1, 249), 0);
        is("the end", x.read(1, 250), 4);
        is("the next block", x.read(2, 0), 0);
        blockIs("whole", x, 63, 3, 3);
        int[][] bad = {
            {-1, 0, 1, 1}, {64, 0, 1, 1}, {2, -1, 1, 1}, {2, 256, 1, 1}, {2, 0, 0, 1}, {2, 0, -1, 1}, {2, 0, 257, 1},
            {2, 1, 256, 1}, {2, 255, 2, 1}, {2, 0, 1, -1}, {2, 0, 1, 256}, {2, Integer.MAX_VALUE, 1, 1}, {2, 1, Integer.MAX_VALUE, 1},
            {2, Integer.MIN_VALUE, 1, 1}, {Integer.MIN_VALUE, 0, 1, 1}, {Integer.MAX_VALUE, 0, 1, 1}, {2, -1, 2, 1},
            {2, 0, Integer.MIN_VALUE, 1}, {2, 255, Integer.MAX_VALUE, 1}, {2, 0, 1, Integer.MAX_VALUE}, {2, 0, 1, Integer.MIN_VALUE}};
        for (int[] a : bad) {
            is("write(" + a[0] + ", " + a[1] + ", " + a[2] + ", " + a[3] + ")", x.write(a[0], a[1], a[2], a[3]), BAD);
        }
        is("bad writes do not join", x.count(RUNNING), 3);
        blockIs("bad writes", x, 2, 0, 0);
        is("no step", x.count(STEPS), 0);
    }

    private static void writeFull() {
        Run x = due.run("writeFull");
        for (int block = 0; block < 30; block++) {
            is("block " + block, x.write(2 * block, 0, 1, 1), block + 1);
        }
        is("the 31st", x.write(61, 0, 1, 1), BAD);
        is("the 31st is not written", x.read(61, 0), 0);
        is("one of the 30", x.write(58, 1, 1, 2), 30);
        x.forget(58);
        is("in place of a forgotten one", x.write(61, 0, 1, 1), 30);
        is("the forgotten one itself", x.write(58, 0, 1, 1), BAD);
        is("a bad write takes no revoke back", x.count(REVOKED), 1);
    }

    private static void writeJoins() {
        Run x = due.run("writeJoins");
        is("the bytes that were there", x.write(9, 0, 1, 0), 1);
        x.forget(10);
        is("a revoked block", x.write(10, 0, 1, 1), 2);
        is("is revoked no more", x.count(REVOKED), 0);
        is("so it takes no revoke block", x.commit(), 4);
        x.write(10, 1, 1, 2);
        is("on what was committed", x.read(10, 0), 1);
        x.fail();
        is("what runs is lost", x.mount(0), 2);
        is("what was committed is not", x.read(10, 0), 1);
        is("what ran", x.read(10, 1), 0);
        is("nothing runs", x.count(RUNNING), 0);
    }

    private static void read() {
        Run x = due.run("read");
        x.write(63, 255, 1, 200);
        is("last byte", x.read(63, 255), 200);
        is("first byte", x.read(0, 0), 0);
        int[][] bad = {{-1, 0}, {64, 0}, {0, -1}, {0, 256}, {Integer.MAX_VALUE, 0}, {0, Integer.MAX_VALUE}, {Integer.MIN_VALUE, 0}, {0, Integer.MIN_VALUE}};
        for (int[] a : bad) {
            is("read(" + a[0] + ", " + a[1] + ")", x.read(a[0], a[1]), BAD);
        }
    }

    private static void forget() {
        Run x = due.run("forget");
        x.write(4, 0, 9, 9);
        is("one of the transaction", x.forget(4), 1);
        is("it leaves", x.count(RUNNING), 0);
        is("it is as at home", x.read(4, 0), 0);
        is("one that is not of it", x.forget(63), 2);
        is("again", x.forget(4), 2);
        for (int block : new int[] {-1, 64, Integer.MIN_VALUE, Integer.MAX_VALUE}) {
            is("forget(" + block + ")", x.forget(block), BAD);
        }
        counts("forgotten", x, 0, 0, 0, 0, 2, 0, 0);
    }

    private static void forgetFull() {
        Run x = due.run("forgetFull");
        for (int block = 0; block < 30; block++) {
            is("forget " + block, x.forget(block), block + 1);
        }
        x.write(30, 0, 1, 5);
        is("the 31st", x.forget(30), BAD);
        is("it does not leave", x.count(RUNNING), 1);
        is("and stays as it was", x.read(30, 0), 5);
        is("one of the 30", x.forget(29), 30);
        is("one taken back", x.write(29, 0, 1, 1), 2);
        is("room for the 31st", x.forget(30), 30);
    }

    private static void forgetIsWhatLiesAtHome() {
        Run x = withLog(1, 5);
        is("forgotten while the log has it", x.forget(0), 1);
        is("home is not the log", x.read(0, 0), 0);
        is("it lies in the log till the commit", x.count(LYING), 1);
        is("clearing brings it home all the same", x.clear(), 1);
        is("now is as it was when it was forgotten", x.read(0, 0), 0);
        is("forgotten again", x.forget(0), 1);
        is("now is what is home", x.read(0, 0), 5);
    }

    private static void direct() {
        Run x = due.run("direct");
        is("direct", x.direct(63, 255), 0);
        is("three steps", x.count(STEPS), 3);
        blockIs("direct", x, 63, 255, 255);
        is("it joins nothing", x.count(RUNNING), 0);
        x.fail();
        is("no log", x.mount(0), 0);
        blockIs("direct at home", x, 63, 255, 255);
        int[][] bad = {{-1, 0}, {64, 0}, {0, -1}, {0, 256}, {Integer.MIN_VALUE, 0}, {Integer.MAX_VALUE, 0}, {0, Integer.MIN_VALUE}, {0, Integer.MAX_VALUE}};
        for (int[] a : bad) {
            is("direct(" + a[0] + ", " + a[1] + ")", x.direct(a[0], a[1]), BAD);
        }
        is("no step for these", x.count(STEPS), 3);
    }

    private static void directIsRefused() {
        Run x = due.run("directIsRefused");
        x.write(1, 0, 1, 1);
        is("in the running transaction", x.direct(1, 2), BAD);
        x.forget(1);
        is("revoked by it", x.direct(1, 2), BAD);
        x.write(1, 0, 1, 1);
        x.commit();
        is("in the log", x.direct(1, 2), BAD);
        is("not changed", x.read(1, 0), 1);
        x.forget(1);
        x.commit();
        is("revoked in the log", x.direct(1, 2), 0);
        x.write(1, 0, 1, 3);
        x.commit();
        is("in the log again", x.direct(1, 4), BAD);
        x.clear();
        is("cleared", x.direct(1, 4), 0);
        x.fail();
        is("nothing to bring home", x.mount(0), 0);
        blockIs("the last direct", x, 1, 4, 4);
    }

    private static void directCutInTwo() {
        int[][] cuts = {{0, 1, 1}, {1, 2, 2}, {2, 2, 1}, {3, 1, 2}};
        for (int[] cut : cuts) {
            Run x = due.run("directCutInTwo");
            x.direct(7, 1);
            x.fuse(2);
            is("power fails before the last barrier", x.direct(7, 2), OFF);
            is("mount", x.mount(cut[0] | 0xFFF0L), 0);
            is("it is under way no more", x.count(UNDER_WAY), 0);
            is("nor when power fails", x.fail(), 0);
            is("mount again", x.mount(-1), 0);
            blockIs("down with " + cut[0], x, 7, cut[1], cut[2]);
        }
        for (int steps = 0; steps < 2; steps++) {
            Run x = due.run("directCutInTwo");
            x.fuse(steps);
            is("direct with a fuse of " + steps, x.direct(7, 2), OFF);
            is("mount", x.mount(-1), 0);
            is("so many steps", x.count(STEPS), steps);
            blockIs("not yet under way", x, 7, 0, 0);
        }
        Run x = due.run("directCutInTwo");
        x.fuse(3);
        is("direct with a fuse of 3", x.direct(7, 2), 0);
        is("none left", x.fuse(-1), 0);
    }

    private static void commit() {
        Run x = due.run("commit");
        is("nothing", x.commit(), 0);
        counts("nothing", x, 0, 0, 0, 0, 0, 0, 0);
        x.write(5, 0, 1, 1);
        is("one block", x.commit(), 3);
        counts("one block", x, 1, 3, 1, 0, 0, 5, 0);
        is("nothing runs", x.commit(), 0);
        x.forget(9);
        is("revokes alone", x.commit(), 2);
        counts("revokes alone", x, 2, 5, 1, 0, 0, 9, 0);
        x.write(5, 0, 1, 2);
        x.forget(6);
        is("both", x.commit(), 4);
        counts("both", x, 3, 9, 1, 0, 0, 15, 0);
    }

    private static void commitUse() {
        int[][] uses = {{1, 3}, {2, 4}, {27, 29}, {28, 30}, {29, 32}, {30, 33}};
        for (int[] use : uses) {
            Run x = due.run("commitUse");
            writeWhole(x, 0, use[0], 1);
            is(use[0] + " blocks", x.commit(), use[1]);
            is(use[0] + " blocks' steps", x.count(STEPS), use[1] + 2);
            x.lay(40);
            writeWhole(x, 0, use[0], 1);
            for (int block = 34; block < 64; block++) {
                x.forget(block);
            }
            is(use[0] + " blocks and 30 revokes", x.commit(), use[1] + 1);
        }
    }

    private static void commitClearsFirst() {
        Run x = due.run("commitClearsFirst");
        for (int i = 0; i < 13; i++) {
            x.write(i % 5, i, 1, i + 1);
            is("commit " + i, x.commit(), 3);
        }
        counts("39 of 40", x, 13, 39, 5, 0, 0, 65, 0);
        x.write(2, 0, 1, 99);
        x.forget(4);
        is("the one that clears", x.commit(), 4);
        counts("cleared", x, 1, 4, 1, 0, 0, 65 + 8 + 6, 0);
        is("its bytes", x.read(2, 0), 99);
        x.forget(2);
        is("what came home", x.read(2, 2), 3);
        is("is not what ran", x.read(2, 0), 0);
        x.lay(41);
        for (int i = 0; i < 13; i++) {
            x.write(1, 0, 1, i + 1);
            x.commit();
        }
        x.forget(1);
        is("41 do not fit in 40", x.commit(), 2);
        counts("a larger ring", x, 1, 2, 0, 0, 0, 65 + 4 + 4, 0);
        x.lay(42);
        for (int i = 0; i < 13; i++) {
            x.write(1, 0, 1, i + 1);
            x.commit();
        }
        x.forget(1);
        is("41 fit in 41", x.commit(), 2);
        counts("a still larger ring", x, 14, 41, 0, 0, 0, 65 + 4, 0);
    }

    private static void commitOfAsManyAsFit() {
        Run x = due.run("commitOfAsManyAsFit");
        x.lay(200);
        for (int i = 1; i <= 99; i++) {
            x.forget(i % 64);
            is("revokes alone", x.commit(), 2);
            is("so many fit", x.count(LOG), i);
        }
        x.forget(0);
        is("the 100th clears first", x.commit(), 2);
        is("it is alone", x.count(LOG), 1);
    }

    private static void commitOfAsManyBlocksAsFit() {
        Run x = due.run("commitOfAsManyBlocksAsFit");
        x.lay(200);
        for (int i = 0; i < 6; i++) {
            writeWhole(x, 5 * i, 30, i + 1);
            is("30 blocks", x.commit(), 33);
        }
        counts("180 blocks", x, 6, 198, 55);
        x.fail();
        is("they come home", x.mount(0), 180);
        for (int block = 0; block < 55; block++) {
            int value = Math.min(6, block / 5 + 1);
            blockIs("the latest", x, block, value, value);
        }
    }

    private static void commitAgainAndAgain() {
        Run x = due.run("commitAgainAndAgain");
        for (int i = 0; i < 80; i++) {
            x.write(i % 64, 0, 256, i);
            is("commit " + i, x.commit(), 3);
            is("13 fit at once", x.count(LOG), i % 13 + 1);
        }
        x.fail();
        is("the last ones come home", x.mount(0), 79 % 13 + 1);
        for (int i = 80 - 64; i < 80; i++) {
            blockIs("the last value", x, i % 64, i, i);
        }
    }

    private static void commitLostAgainAndAgain() {
        Run x = due.run("commitLostAgainAndAgain");
        for (int i = 0; i < 120; i++) {
            x.write(1, 0, 256, 1);
            x.fuse(4);
            is("power fails", x.commit(), OFF);
            is("the commit is not down", x.mount(0), 0);
        }
        x.write(1, 0, 256, 2);
        is("another", x.commit(), 3);
        x.fail();
        is("comes home", x.mount(0), 1);
        blockIs("it", x, 1, 2, 2);
    }

    private static void commitAtEachStep() {
        for (int fuse = 0; fuse <= 5; fuse++) {
            for (int bits = 0; bits < 4; bits++) {
                Run x = due.run("commitAtEachStep");
                x.direct(3, 1);
                x.write(3, 0, 256, 2);
                x.fuse(fuse);
                is("commit with a fuse of " + fuse, x.commit(), fuse < 5 ? OFF : 3);
                x.fail();
                boolean kept = fuse == 5 || fuse == 4 && (bits == 1 || bits == 2);
                x.mount(fuse == 5 ? 0 : bits);
                if (fuse == 5) {
                    is("a fuse that is used up ends mount", x.count(LOG), OFF);
                    x.mount(0);
                }
                is("steps", x.count(STEPS), 3 + fuse + (kept ? 4 : 0));
                blockIs("fuse " + fuse + ", bits " + bits, x, 3, kept ? 2 : 1, kept ? 2 : 1);
                counts("fuse " + fuse + ", bits " + bits, x, 0, 0, 0, 0, 0);
            }
        }
    }

    private static void clear() {
        Run x = withLog(3, 1);
        x.write(1, 0, 256, 2);
        x.commit();
        x.write(2, 0, 256, 3);
        x.forget(0);
        is("clear", x.clear(), 3);
        counts("clear", x, 0, 0, 0, 1, 1, 7 + 5 + 6, 0);
        is("an empty log", x.clear(), 0);
        is("no step", x.count(STEPS), 18);
        blockIs("what runs goes on", x, 2, 3, 3);
        x.fail();
        is("nothing left for mount", x.mount(0), 0);
        blockIs("home", x, 0, 1, 1);
        blockIs("the latest one tells", x, 1, 2, 2);
        blockIs("what ran is lost", x, 2, 1, 1);
    }

    private static void clearAgain() {
        Run x = due.run("clearAgain");
        for (int i = 5; i > 0; i--) {
            for (int commits = 0; commits < i; commits++) {
                x.write(1, 0, 256, 10 * i + commits);
                x.commit();
            }
            is("clear", x.clear(), 1);
            x.forget(1);
            blockIs("the latest of this log", x, 1, 11 * i - 1, 11 * i - 1);
        }
    }

    private static void clearAtEachStep() {
        // Blocks 0 and 1 come home, the log telling 2, home being 1.
        for (int fuse = 0; fuse < 5; fuse++) {
            for (int bits = 0; bits < 16; bits++) {
                Run x = due.run("clearAtEachStep");
                x.direct(0, 1);
                x.direct(1, 1);
                writeWhole(x, 0, 2, 2);
                x.commit();
                x.fuse(fuse);
                is("clear with a fuse of " + fuse, x.clear(), OFF);
                boolean headDown = fuse == 4 && ((bits & 3) == 1 || (bits & 3) == 2);
                is("fuse " + fuse + ", bits " + bits, x.mount(bits), headDown ? 0 : 2);
                is("steps", x.count(STEPS), 12 + fuse + (headDown ? 0 : 5));
                blockIs("fuse " + fuse + ", bits " + bits, x, 0, 2, 2);
                blockIs("fuse " + fuse + ", bits " + bits, x, 1, 2, 2);
            }
        }
    }

    private static void clearWithNothingLying() {
        Run x = due.run("clearWithNothingLying");
        x.forget(1);
        x.commit();
        is("no block lies in the log", x.count(LYING), 0);
        is("clear", x.clear(), 0);
        counts("but it is not empty", x, 0, 0, 0, 0, 0, 4 + 3, 0);
        x.forget(1);
        x.commit();
        x.fail();
        is("mount likewise", x.mount(0), 0);
        is("steps", x.count(STEPS), 7 + 4 + 3);
    }

    private static void fuse() {
        Run x = due.run("fuse");
        is("none before", x.fuse(100000), -1);
        is("all left", x.fuse(0), 100000);
        is("0 left", x.fuse(-1), 0);
        is("none again", x.fuse(10), -1);
        for (int n : new int[] {-2, 100001, Integer.MIN_VALUE, Integer.MAX_VALUE}) {
            is("fuse(" + n + ")", x.fuse(n), BAD);
        }
        x.direct(1, 1);
        is("three made", x.fuse(3), 7);
        is("just enough", x.direct(2, 2), 0);
        is("power is on", x.read(2, 0), 2);
        is("calls without steps do not mind", x.commit() + x.clear(), 0);
        is("one more", x.direct(3, 3), OFF);
        is("power is off", x.read(2, 0), OFF);
        is("mount", x.mount(0), 0);
        is("the step was not made", x.count(STEPS), 6);
        is("no fuse then", x.fuse(-1), -1);
    }

    private static void fail() {
        Run x = withLog(2, 3);
        x.fuse(9);
        is("nothing under way", x.fail(), 0);
        is("power is off", x.fail(), OFF);
        is("the fuse is off too", x.fuse(1), OFF);
        is("mount", x.mount(0), 2);
        is("the fuse is as it was", x.fuse(-1), 9 - 5);
    }

    private static void offComesBeforeBad() {
        Run x = withLog(1, 1);
        x.fail();
        is("write", x.write(0, 0, 1, 1), OFF);
        is("bad write", x.write(-1, -1, -1, -1), OFF);
        is("read", x.read(0, 0), OFF);
        is("bad read", x.read(64, 0), OFF);
        is("forget", x.forget(0), OFF);
        is("bad forget", x.forget(64), OFF);
        is("direct", x.direct(1, 1), OFF);
        is("bad direct", x.direct(64, 256), OFF);
        is("commit", x.commit(), OFF);
        is("clear", x.clear(), OFF);
        is("fuse", x.fuse(0), OFF);
        is("bad fuse", x.fuse(-2), OFF);
        is("fail", x.fail(), OFF);
        is("count", x.count(0), OFF);
        is("bad count", x.count(7), OFF);
        is("mount", x.mount(0), 1);
        counts("none of these did anything", x, 0, 0, 0, 0, 0, 9, 0);
        is("nor set a fuse", x.fuse(-1), -1);
    }

    private static void mount() {
        Run x = due.run("mount");
        is("power is on", x.mount(0), BAD);
        x.fuse(0);
        x.fail();
        is("an empty log takes no step", x.mount(-1), 0);
        is("so the fuse is as it was", x.fuse(-1), 0);
        x.write(1, 0, 256, 7);
        x.forget(2);
        x.fail();
        is("what runs is lost", x.mount(-1), 0);
        counts("lost", x, 0, 0, 0, 0, 0, 0, 0);
        blockIs("lost", x, 1, 0, 0);
    }

    private static void mountGoesThroughAllTransactions() {
        Run x = withLog(3, 1);
        writeWhole(x, 1, 2, 2);
        x.commit();
        x.forget(0);
        x.forget(1);
        writeWhole(x, 4, 1, 3);
        x.commit();
        writeWhole(x, 1, 1, 4);
        x.commit();
        int steps = x.count(STEPS);
        counts("before", x, 4, 5 + 4 + 4 + 3, 3);
        x.fail();
        is("2 twice, 4, and 1 that came behind its revoke", x.mount(0), 4);
        is("steps", x.count(STEPS), steps + 4 + 3);
        counts("behind", x, 0, 0, 0, 0, 0);
        blockIs("revoked", x, 0, 0, 0);
        blockIs("revoked, then written", x, 1, 4, 4);
        blockIs("the latest", x, 2, 2, 2);
        blockIs("beside a revoke", x, 4, 3, 3);
    }

    private static void mountAtEachStep() {
        for (int fuse = 0; fuse < 5; fuse++) {
            for (int bits = 0; bits < 16; bits++) {
                Run x = withLog(2, 2);
                x.fuse(fuse);
                x.fail();
                is("the fuse ends mount", x.mount(0), OFF);
                is("power is off", x.count(LOG), OFF);
                boolean headDown = fuse == 4 && ((bits & 3) == 1 || (bits & 3) == 2);
                is("fuse " + fuse + ", bits " + bits, x.mount(bits), headDown ? 0 : 2);
                is("no fuse then", x.fuse(-1), -1);
                is("steps", x.count(STEPS), 6 + fuse + (headDown ? 0 : 5));
                blockIs("fuse " + fuse + ", bits " + bits, x, 0, 2, 2);
                blockIs("fuse " + fuse + ", bits " + bits, x, 1, 2, 2);
            }
        }
    }

    private static void mountOfTwiceWrittenBlocks() {
        for (int fuse = 0; fuse < 6; fuse++) {
            for (int bits = 0; bits < 16; bits++) {
                Run x = withLog(2, 1);
                writeWhole(x, 0, 1, 2);
                x.commit();
                x.fuse(fuse);
                x.fail();
                is("the fuse ends mount", x.mount(0), OFF);
                boolean headDown = fuse == 5 && ((bits & 3) == 1 || (bits & 3) == 2);
                is("0, 1, 0 come home", x.mount(bits), headDown ? 0 : 3);
                blockIs("whatever was down of 0", x, 0, 2, 2);
                blockIs("whatever was down of 1", x, 1, 1, 1);
            }
        }
    }

    private static void mountBehindThe32nd() {
        Run x = due.run("mountBehindThe32nd");
        x.lay(200);
        writeWhole(x, 0, 30, 1);
        x.commit();
        writeWhole(x, 30, 10, 1);
        x.commit();
        x.fuse(40);
        is("40 blocks under way", x.clear(), OFF);
        is("all come home again", x.mount(-1), 40);
        for (int block = 0; block < 40; block++) {
            blockIs("home", x, block, 1, 1);
        }
    }

    private static void count() {
        Run x = withLog(2, 1);
        x.write(1, 0, 1, 2);
        x.forget(0);
        x.commit();
        x.write(5, 0, 1, 1);
        x.write(6, 0, 1, 1);
        x.forget(7);
        x.forget(8);
        x.forget(9);
        is("transactions", x.count(LOG), 2);
        is("blocks used", x.count(USED), 4 + 4);
        is("blocks that lie in it", x.count(LYING), 1);
        is("blocks that run", x.count(RUNNING), 2);
        is("revokes", x.count(REVOKED), 3);
        is("steps", x.count(STEPS), 6 + 6);
        is("under way", x.count(UNDER_WAY), 0);
        for (int which : new int[] {-1, 7, Integer.MIN_VALUE, Integer.MAX_VALUE}) {
            is("count(" + which + ")", x.count(which), BAD);
        }
    }
}
