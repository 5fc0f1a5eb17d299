/** The boundary sentences of promise 11, and of the term MOUNTING. */
final class MountBoundariesTest {
    private static final int OFF = RedoJournal.OFF;
    private static final int BAD = RedoJournal.BAD;
    /** All that may stand above a block's two bits. */
    private static final long[] HIGHER_BITS = {0, 4, 8, 12, -4, Long.MIN_VALUE, 1L << 62, 3L << 62, 1L << 32};

    private static final Due due = new Due();

    public static void main(String[] args) {
        powerIsOn();
        powerIsOnLeavesAll();
        theFuseIsAsItWas();
        theFuseIsNoneWhenItMadePowerFail();
        theFuseIsLessByTheSteps();
        anEmptyLogTakesNoStep();
        aLogOfRevokesAloneTakesSteps();
        offWhenTheFuseEndsIt();
        aFuseThatIsJustEnough();
        endedAtEachStep();
        nothingIsDown();
        allIsDown();
        theFirstHalfIsDown();
        theLastHalfIsDown();
        theCommitIsDown();
        theHeadOfClearIsDown();
        theHeadOfMountIsDown();
        theCommitBehindAFullLog();
        theBodyAloneIsNothing();
        zeroBehindThe32nd();
        the32ndAndThe33rd();
        asOftenAsTheyDid();
        revokedByALaterOne();
        revokedByItself();
        revokedByAnEarlierOne();
        revokedInBetween();
        revokedByALostOne();
        theLatestIsHome();
        nowAreTheBytesAtHome();
        underWayNoMore();
        whatWasDownIsHome();
        theLogIsEmptyThen();
        mountedAgainAndAgain();
        manyBlocksLostAgainAndAgain();
        due.end();
    }

    private static boolean isDown(int part) {
        return part == 1 || part == 2;
    }

    private static void powerIsOn() {
        Run x = due.run("11 BAD: power is on");
        x.is(x.mount(0), BAD);
        x.is(x.mount(-1), BAD);
        x.fail();
        x.is(x.mount(0), 0);
        x.is(x.mount(0), BAD);
        x.fuse(0);
        x.is(x.mount(1), BAD);
        x.is(x.direct(1, 1), OFF);
        x.is(x.mount(0), 0);
        x.is(x.mount(0), BAD);
    }

    private static void powerIsOnLeavesAll() {
        Twins.stayAlike(due, "11 BAD leaves all", Twins::full, x -> {
            for (long bits : new long[] {0, 1, 2, 3, -1, Long.MIN_VALUE, Long.MAX_VALUE}) {
                x.is(x.mount(bits), BAD);
            }
        });
    }

    private static void theFuseIsAsItWas() {
        for (int n : new int[] {-1, 0, 1, 7, 100000}) {
            Run x = due.run("11 the fuse is as it was");
            x.fuse(n);
            x.fail();
            x.is(x.mount(0), 0);
            x.is(x.fuse(n), n);
            x.is(x.mount(0), BAD);
            x.is(x.fuse(n), n);
        }
    }

    private static void theFuseIsNoneWhenItMadePowerFail() {
        for (Twins.Calls off : new Twins.Calls[] {Twins::offInDirect, Twins::offInCommit, Twins::offInClear, Twins::offInMount}) {
            Run x = due.run("11 it is none when it made power fail");
            off.on(x);
            x.is(x.mount(0) >= 0 ? 1 : 0, 1);
            x.is(x.fuse(3), -1);
            x.is(x.direct(20, 1), 0);
            x.is(x.fuse(-1), 0);
        }
    }

    private static void theFuseIsLessByTheSteps() {
        Run x = due.run("11 the fuse is as it was, less mounting's own steps");
        x.commitWhole(0, 4, 1);
        x.fuse(100);
        x.fail();
        x.is(x.mount(0), 4);
        x.is(x.fuse(-1), 100 - 7);
    }

    private static void anEmptyLogTakesNoStep() {
        Run x = due.run("11 if the log is not empty");
        x.fail();
        x.is(x.mount(-1), 0);
        x.is(x.count(5), 0);
        x.fuse(0);
        x.fail();
        x.is(x.mount(-1), 0);
        x.is(x.count(5), 0);
        x.is(x.fuse(-1), 0);
        x.commitWhole(1, 1, 1);
        x.clear();
        int steps = x.count(5);
        x.fail();
        x.is(x.mount(-1), 0);
        x.is(x.count(5), steps);
    }

    private static void aLogOfRevokesAloneTakesSteps() {
        Run x = due.run("11 if the log is not empty, though nothing comes home");
        x.forget(1);
        x.commit();
        x.fail();
        x.is(x.mount(0), 0);
        x.is(x.count(5), 4 + 3);
        x.forget(1);
        x.commit();
        x.fuse(2);
        x.fail();
        x.is(x.mount(0), OFF);
        x.is(x.mount(0), 0);
        x.is(x.count(5), 7 + 4 + 2 + 3);
    }

    private static void offWhenTheFuseEndsIt() {
        Run x = due.run("11 OFF when the fuse ends it");
        x.commitWhole(1, 2, 6);
        x.fuse(1);
        x.fail();
        x.is(x.mount(0), OFF);
        x.is(x.read(1, 0), OFF);
        x.is(x.count(0), OFF);
        x.is(x.fail(), OFF);
        x.is(x.mount(0), 2);
        x.is(x.count(5), 6 + 1 + 5);
    }

    private static void aFuseThatIsJustEnough() {
        Run x = due.run("11 a fuse of all its steps");
        x.commitWhole(1, 2, 6);
        x.fuse(5);
        x.fail();
        x.is(x.mount(0), 2);
        x.is(x.fuse(-1), 0);
        x.commitWhole(1, 2, 6);
        x.fuse(4);
        x.fail();
        x.is(x.mount(0), OFF);
    }

    private static void endedAtEachStep() {
        for (int fuse = 0; fuse <= 6; fuse++) {
            for (int part = 0; part < 4; part++) {
                for (long higher : HIGHER_BITS) {
                    Run x = due.run("11 ended at each step");
                    x.commitWhole(0, 3, 2);
                    x.commitWhole(1, 1, 3);
                    x.fuse(fuse);
                    x.fail();
                    x.is(x.mount(0), OFF);
                    boolean empty = fuse == 6 && isDown(part);
                    // Home blocks 0, 1, 2 are under way; 1 twice written, but once there.
                    x.is(x.mount(higher | part), empty ? 0 : 4);
                    x.counts(0, 0, 0, 0, 0, 7 + 5 + fuse + (empty ? 0 : 7), 0);
                    x.blockIs(0, 2);
                    x.blockIs(1, 3);
                    x.blockIs(2, 2);
                }
            }
        }
    }

    private static void directIsCut(String sentence, int part, int first, int last) {
        for (long higher : HIGHER_BITS) {
            Run x = due.run(sentence);
            x.direct(7, 1);
            x.fuse(2);
            x.is(x.direct(7, 2), OFF);
            x.is(x.mount(higher | part), 0);
            x.blockIs(7, first, last);
            x.is(x.read(7, 126), first);
            x.is(x.read(7, 129), last);
            x.forget(7);
            x.blockIs(7, first, last);
        }
    }

    private static void nothingIsDown() {
        directIsCut("11 0 nothing (it is what it was at the last barrier)", 0, 1, 1);
    }

    private static void allIsDown() {
        directIsCut("11 1 all", 1, 2, 2);
    }

    private static void theFirstHalfIsDown() {
        directIsCut("11 2 the first 128 bytes", 2, 2, 1);
    }

    private static void theLastHalfIsDown() {
        directIsCut("11 3 the last 128 bytes", 3, 1, 2);
    }

    private static void theCommitIsDown() {
        for (int part = 0; part < 4; part++) {
            for (long higher : HIGHER_BITS) {
                Run x = due.run("11 is in the log if that is down with 1 or 2, else it is not");
                x.commitWhole(1, 1, 5);
                x.write(1, 0, 256, 6);
                x.write(2, 0, 256, 7);
                x.forget(3);
                x.fuse(6);
                x.is(x.commit(), OFF);
                x.is(x.mount(higher | part), isDown(part) ? 3 : 1);
                x.blockIs(1, isDown(part) ? 6 : 5);
                x.blockIs(2, isDown(part) ? 7 : 0);
                x.counts(0, 0, 0, 0, 0, 5 + 6 + (isDown(part) ? 6 : 4), 0);
            }
        }
    }

    private static void theHeadOfClearIsDown() {
        for (int part = 0; part < 4; part++) {
            for (long higher : HIGHER_BITS) {
                Run x = due.run("11 a head likewise: the log is empty, or is what it was");
                x.commitWhole(1, 2, 5);
                x.commitWhole(1, 1, 6);
                x.fuse(4);
                x.is(x.clear(), OFF);
                x.is(x.mount(higher | part), isDown(part) ? 0 : 3);
                x.blockIs(1, 6);
                x.blockIs(2, 5);
                x.counts(0, 0, 0, 0, 0, 6 + 5 + 4 + (isDown(part) ? 0 : 6), 0);
            }
        }
    }

    private static void theHeadOfMountIsDown() {
        for (int part = 0; part < 4; part++) {
            for (long higher : HIGHER_BITS) {
                Run x = due.run("11 a head likewise, in mounting");
                x.commitWhole(1, 2, 5);
                x.commitWhole(1, 1, 6);
                x.fuse(5);
                x.fail();
                x.is(x.mount(0), OFF);
                x.is(x.mount(higher | part), isDown(part) ? 0 : 3);
                x.blockIs(1, 6);
                x.blockIs(2, 5);
                x.counts(0, 0, 0, 0, 0, 6 + 5 + 5 + (isDown(part) ? 0 : 6), 0);
            }
        }
    }

    private static void theCommitBehindAFullLog() {
        for (int part = 0; part < 4; part++) {
            Run x = due.run("11 a commit that fills the ring");
            for (int i = 0; i < 12; i++) {
                x.commitWhole(i, 1, i + 1);
            }
            x.write(12, 0, 256, 13);
            x.fuse(4);
            x.is(x.commit(), OFF);
            x.is(x.mount(part), isDown(part) ? 13 : 12);
            x.blockIs(11, 12);
            x.blockIs(12, isDown(part) ? 13 : 0);
        }
    }

    private static void theBodyAloneIsNothing() {
        for (int fuse = 0; fuse <= 34; fuse++) {
            for (long bits : new long[] {-1, 0x5555555555555555L, 0xAAAAAAAAAAAAAAAAL}) {
                Run x = due.run("11 a transaction whose commit was not under way is not in the log");
                x.commitWhole(63, 1, 9);
                x.writeWhole(0, 30, 5);
                x.forget(63);
                x.fuse(fuse);
                x.is(x.commit(), OFF);
                x.is(x.mount(bits), 1);
                x.is(x.count(5), 5 + fuse + 4);
                x.blockIs(0, 0);
                x.blockIs(29, 0);
                x.blockIs(63, 9);
            }
        }
    }

    private static void zeroBehindThe32nd() {
        for (int underWay = 30; underWay <= 40; underWay++) {
            for (long bits : new long[] {0, -1, 0x5555555555555555L, 1, 2, 3, 3L << 62, 1L << 62}) {
                Run x = due.run("11 0 behind the 32nd");
                x.lay(200);
                x.commitWhole(0, 30, 1);
                x.commitWhole(30, 10, 2);
                x.fuse(underWay);
                x.is(x.clear(), OFF);
                x.is(x.mount(bits), 40);
                for (int block = 28; block < 40; block++) {
                    x.blockIs(block, block < 30 ? 1 : 2);
                }
                x.is(x.count(5), 35 + 14 + underWay + 43);
            }
        }
    }

    private static void the32ndAndThe33rd() {
        // The commit's own bits are the lowest: those of the body before the barrier are gone.
        for (int n = 26; n <= 30; n++) {
            for (long bits : new long[] {0, 1, 2, 3, 1L << 62, 3L << 62, -4, -3}) {
                Run x = due.run("11 two for each in their order, the lowest ones first");
                x.writeWhole(0, n, 5);
                int body = n + (n <= 28 ? 1 : 2);
                x.fuse(body + 2);
                x.is(x.commit(), OFF);
                boolean kept = isDown((int) (bits & 3));
                x.is(x.mount(bits), kept ? n : 0);
                x.blockIs(n - 1, kept ? 5 : 0);
            }
        }
    }

    private static void asOftenAsTheyDid() {
        Run x = due.run("11 one that several transactions have as often");
        for (int i = 1; i <= 13; i++) {
            x.commitWhole(2, 1, i);
        }
        x.fail();
        x.is(x.mount(0), 13);
        x.is(x.count(5), 65 + 16);
        x.blockIs(2, 13);
    }

    private static void revokedByALaterOne() {
        Run x = due.run("11 not revoked by a later one");
        x.direct(2, 50);
        x.commitWhole(2, 1, 1);
        x.commitWhole(2, 2, 2);
        x.forget(2);
        x.is(x.commit(), 2);
        x.fail();
        x.is(x.mount(0), 1);
        x.is(x.count(5), 3 + 5 + 6 + 4 + 4);
        x.blockIs(2, 50);
        x.blockIs(3, 2);
    }

    private static void revokedByItself() {
        Run x = due.run("11 not revoked by it");
        x.writeWhole(2, 2, 1);
        x.forget(2);
        x.is(x.commit(), 4);
        x.fail();
        x.is(x.mount(0), 1);
        x.blockIs(2, 0);
        x.blockIs(3, 1);
    }

    private static void revokedByAnEarlierOne() {
        Run x = due.run("11 revoked by an earlier one alone");
        x.forget(2);
        x.commit();
        x.commitWhole(2, 1, 1);
        x.fail();
        x.is(x.mount(0), 1);
        x.blockIs(2, 1);
    }

    private static void revokedInBetween() {
        Run x = due.run("11 revoked in between");
        x.commitWhole(2, 1, 1);
        x.forget(2);
        x.commit();
        x.commitWhole(2, 1, 3);
        x.forget(2);
        x.write(3, 0, 1, 1);
        x.commit();
        x.write(2, 5, 1, 4);
        x.commit();
        x.counts(5, 3 + 2 + 3 + 4 + 3, 2);
        x.fail();
        x.is(x.mount(0), 2);
        x.is(x.read(2, 5), 4);
        x.is(x.read(2, 4), 0);
        x.is(x.read(3, 0), 1);
    }

    private static void revokedByALostOne() {
        for (int part = 0; part < 4; part++) {
            Run x = due.run("11 revoked by one whose commit is or is not down");
            x.direct(2, 50);
            x.commitWhole(2, 1, 1);
            x.forget(2);
            x.fuse(3);
            x.is(x.commit(), OFF);
            x.is(x.mount(part), isDown(part) ? 0 : 1);
            x.blockIs(2, isDown(part) ? 50 : 1);
            x.is(x.count(5), 3 + 5 + 3 + (isDown(part) ? 3 : 4));
        }
    }

    private static void theLatestIsHome() {
        Run x = due.run("11 the oldest first");
        x.commitWhole(0, 3, 1);
        x.commitWhole(1, 3, 2);
        x.commitWhole(2, 1, 3);
        x.fail();
        x.is(x.mount(0), 7);
        x.blockIs(0, 1);
        x.blockIs(1, 2);
        x.blockIs(2, 3);
        x.blockIs(3, 2);
    }

    private static void nowAreTheBytesAtHome() {
        Run x = due.run("11 now are the bytes at home then");
        x.direct(1, 4);
        x.commitWhole(2, 1, 5);
        x.write(1, 0, 256, 6);
        x.write(2, 0, 256, 7);
        x.write(3, 0, 256, 8);
        x.fail();
        x.mount(0);
        x.blockIs(1, 4);
        x.blockIs(2, 5);
        x.blockIs(3, 0);
        x.forgetAll(1, 3);
        x.blockIs(1, 4);
        x.blockIs(2, 5);
        x.blockIs(3, 0);
    }

    private static void underWayNoMore() {
        for (Twins.Calls off : new Twins.Calls[] {Twins::offInDirect, Twins::offInCommit, Twins::offInClear, Twins::offInMount}) {
            Run x = due.run("11 what was under way before is so no more");
            off.on(x);
            x.mount(0);
            x.is(x.count(6), 0);
            int first = x.read(9, 0);
            int last = x.read(9, 255);
            x.is(x.fail(), 0);
            x.is(x.mount(-1), 0);
            x.blockIs(9, first, last);
            x.blockIs(9, 3);
        }
    }

    private static void whatWasDownIsHome() {
        Run x = due.run("11 what came down is what the block was, for what comes then");
        x.direct(9, 1);
        x.fuse(2);
        x.direct(9, 2);
        x.mount(2);
        x.blockIs(9, 2, 1);
        x.fuse(2);
        x.direct(9, 3);
        x.mount(0);
        x.blockIs(9, 2, 1);
        x.fuse(2);
        x.direct(9, 4);
        x.mount(3);
        x.blockIs(9, 2, 4);
    }

    private static void theLogIsEmptyThen() {
        Run x = due.run("11 the log is empty from the head's step on");
        x.commitWhole(1, 2, 6);
        x.fail();
        x.is(x.mount(0), 2);
        x.counts(0, 0, 0, 0, 0, 6 + 5, 0);
        x.is(x.clear(), 0);
        x.is(x.direct(1, 7), 0);
        x.fail();
        x.is(x.mount(0), 0);
        x.blockIs(1, 7);
    }

    private static void mountedAgainAndAgain() {
        Run x = due.run("11 commits that are lost take nothing of the ring");
        for (int i = 0; i < 120; i++) {
            x.write(1, 0, 256, 1);
            x.fuse(4);
            x.is(x.commit(), OFF);
            x.is(x.mount(i % 2 * 3), 0);
        }
        x.is(x.commitWhole(1, 1, 9), 3);
        x.is(x.count(1), 3);
        x.fail();
        x.is(x.mount(0), 1);
        x.blockIs(1, 9);
    }

    private static void manyBlocksLostAgainAndAgain() {
        Run x = due.run("11 the bytes of commits that are lost take no room");
        for (int i = 0; i < 12; i++) {
            x.writeWhole(0, 20, 1);
            x.fuse(23);
            x.is(x.commit(), OFF);
            x.is(x.mount(i % 2 * 3), 0);
        }
        x.is(x.commitWhole(0, 30, 9), 33);
        x.counts(1, 33, 30);
        x.fail();
        x.is(x.mount(0), 30);
        x.blockIs(0, 9);
        x.blockIs(29, 9);
    }
}
