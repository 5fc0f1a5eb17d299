/** The boundary sentences of promise 6: direct. */
final class DirectBoundariesTest {
    private static final int OFF = RedoJournal.OFF;
    private static final int BAD = RedoJournal.BAD;

    private static final Due due = new Due();

    public static void main(String[] args) {
        firstAndLastBlock();
        leastAndMostValue();
        noSuchBlockOrValue();
        inTheRunningTransaction();
        revokedByIt();
        inTheLog();
        inTheLogTillARevokeIsCommitted();
        inTheLogAgain();
        inTheLogTillItIsCleared();
        inTheLogTillItIsMounted();
        forgottenWhileInTheLog();
        beside();
        aBarrierTheBlockABarrier();
        soItIsNow();
        isNeverInTheLog();
        powerFailsBeforeItIsUnderWay();
        powerFailsBeforeTheLastBarrier();
        powerFailsOnBlockAfterBlock();
        aFuseThatIsJustEnough();
        behindACommitItIsNotUndone();
        refusedLeavesAll();
        refusedTakesNoStep();
        isOff();
        due.end();
    }

    private static void firstAndLastBlock() {
        Run x = due.run("6 no such block");
        x.is(x.direct(-1, 1), BAD);
        x.is(x.direct(0, 1), 0);
        x.is(x.direct(63, 2), 0);
        x.is(x.direct(64, 3), BAD);
        x.blockIs(0, 1);
        x.blockIs(1, 0);
        x.blockIs(62, 0);
        x.blockIs(63, 2);
        x.is(x.count(5), 6);
    }

    private static void leastAndMostValue() {
        Run x = due.run("6 no such value");
        x.is(x.direct(5, 255), 0);
        x.blockIs(5, 255);
        x.is(x.direct(5, 256), BAD);
        x.blockIs(5, 255);
        x.is(x.direct(5, 0), 0);
        x.blockIs(5, 0);
        x.is(x.direct(5, -1), BAD);
        x.blockIs(5, 0);
        x.is(x.count(5), 6);
    }

    private static void noSuchBlockOrValue() {
        Run x = due.run("6 no such block or value");
        for (int block : new int[] {-64, 65, 128, Integer.MIN_VALUE, Integer.MAX_VALUE}) {
            x.is(x.direct(block, 1), BAD);
        }
        for (int value : new int[] {-256, -128, 257, 511, Integer.MIN_VALUE, Integer.MAX_VALUE}) {
            x.is(x.direct(1, value), BAD);
        }
        x.is(x.direct(-1, -1), BAD);
        x.is(x.direct(64, 256), BAD);
        x.is(x.count(5), 0);
    }

    private static void inTheRunningTransaction() {
        Run x = due.run("6 neither in the running transaction");
        for (int block : new int[] {0, 31, 32, 63}) {
            x.write(block, 0, 1, 7);
            x.is(x.direct(block, 2), BAD);
            x.is(x.read(block, 0), 7);
            x.is(x.read(block, 1), 0);
        }
        x.is(x.count(5), 0);
        x.is(x.count(3), 4);
        x.is(x.direct(1, 2), 0);
        x.fail();
        x.mount(0);
        x.is(x.direct(0, 2), 0);
    }

    private static void revokedByIt() {
        Run x = due.run("6 nor revoked by it");
        for (int block : new int[] {0, 31, 32, 63}) {
            x.forget(block);
            x.is(x.direct(block, 2), BAD);
            x.is(x.read(block, 0), 0);
        }
        x.is(x.count(5), 0);
        x.is(x.count(4), 4);
        x.is(x.commit(), 2);
        for (int block : new int[] {0, 31, 32, 63}) {
            x.is(x.direct(block, 2), 0);
        }
    }

    private static void inTheLog() {
        Run x = due.run("6 and does not lie in the log");
        x.write(0, 0, 1, 7);
        x.write(63, 0, 1, 8);
        x.commit();
        int steps = x.count(5);
        x.is(x.direct(0, 2), BAD);
        x.is(x.direct(63, 2), BAD);
        x.is(x.read(0, 0), 7);
        x.is(x.read(63, 0), 8);
        x.is(x.count(5), steps);
        x.is(x.direct(1, 2), 0);
    }

    private static void inTheLogTillARevokeIsCommitted() {
        Run x = due.run("6 does not lie in the log: a later one revoked it");
        x.commitWhole(1, 1, 7);
        x.is(x.direct(1, 2), BAD);
        x.forget(1);
        x.is(x.direct(1, 2), BAD);
        x.is(x.commit(), 2);
        x.is(x.direct(1, 2), 0);
        x.blockIs(1, 2);
        x.counts(2, 5, 0);
        x.fail();
        x.is(x.mount(0), 0);
        x.blockIs(1, 2);
    }

    private static void inTheLogAgain() {
        Run x = due.run("6 does not lie in the log: one later still has it");
        x.commitWhole(1, 1, 7);
        x.forget(1);
        x.commit();
        x.commitWhole(1, 1, 8);
        x.is(x.count(2), 1);
        x.is(x.direct(1, 2), BAD);
        x.blockIs(1, 8);
    }

    private static void inTheLogTillItIsCleared() {
        Run x = due.run("6 does not lie in the log: cleared");
        x.commitWhole(1, 1, 7);
        x.is(x.direct(1, 2), BAD);
        x.is(x.clear(), 1);
        x.is(x.direct(1, 2), 0);
        x.blockIs(1, 2);
    }

    private static void inTheLogTillItIsMounted() {
        Run x = due.run("6 does not lie in the log: mounted");
        x.commitWhole(1, 1, 7);
        x.fail();
        x.is(x.mount(0), 1);
        x.is(x.direct(1, 2), 0);
        x.blockIs(1, 2);
    }

    private static void forgottenWhileInTheLog() {
        Run x = due.run("6 BAD: it is in one of these");
        x.commitWhole(1, 1, 7);
        x.forget(1);
        x.is(x.clear(), 1);
        x.is(x.direct(1, 2), BAD);
        x.is(x.commit(), 2);
        x.is(x.direct(1, 2), 0);
    }

    private static void beside() {
        Run x = due.run("6 others may run, be revoked and lie in the log");
        x.commitWhole(1, 1, 7);
        x.writeWhole(3, 1, 8);
        x.forget(5);
        for (int block : new int[] {0, 2, 4, 6}) {
            x.is(x.direct(block, 9), 0);
        }
        x.counts(1, 3, 1, 1, 1, 5 + 12, 0);
        x.blockIs(1, 7);
        x.blockIs(3, 8);
        x.blockIs(5, 0);
    }

    private static void aBarrierTheBlockABarrier() {
        Run x = due.run("6 a barrier, the block, a barrier");
        x.is(x.direct(1, 2), 0);
        x.is(x.count(5), 3);
        x.is(x.count(6), 0);
        x.is(x.direct(1, 2), 0);
        x.is(x.count(5), 6);
        x.is(x.fail(), 0);
    }

    private static void soItIsNow() {
        Run x = due.run("6 with all bytes a value; so it is now");
        x.is(x.direct(1, 200), 0);
        for (int at = 0; at < 256; at++) {
            x.is(x.read(1, at), 200);
        }
        x.is(x.read(0, 255), 0);
        x.is(x.read(2, 0), 0);
    }

    private static void isNeverInTheLog() {
        Run x = due.run("6 is written at home");
        x.is(x.direct(1, 200), 0);
        x.counts(0, 0, 0, 0, 0, 3, 0);
        x.is(x.commit(), 0);
        x.is(x.clear(), 0);
        x.fail();
        x.is(x.mount(0), 0);
        x.blockIs(1, 200);
    }

    private static void powerFailsBeforeItIsUnderWay() {
        for (int fuse = 0; fuse < 2; fuse++) {
            for (long bits : new long[] {0, 1, 2, 3, -1}) {
                Run x = due.run("6 power fails, and it was not under way");
                x.direct(5, 1);
                x.fuse(fuse);
                x.is(x.direct(5, 2), OFF);
                x.is(x.mount(bits), 0);
                x.is(x.count(5), 3 + fuse);
                x.blockIs(5, 1);
            }
        }
    }

    private static void powerFailsBeforeTheLastBarrier() {
        int[][] cuts = {{0, 1, 1}, {1, 2, 2}, {2, 2, 1}, {3, 1, 2}};
        for (int[] cut : cuts) {
            for (long more : new long[] {0, 4, -4, Long.MIN_VALUE}) {
                Run x = due.run("6 it is what is down of it");
                x.direct(5, 1);
                x.direct(6, 1);
                x.fuse(2);
                x.is(x.direct(5, 2), OFF);
                x.is(x.mount(more | cut[0]), 0);
                x.is(x.count(5), 8);
                x.blockIs(5, cut[1], cut[2]);
                x.blockIs(4, 0);
                x.blockIs(6, 1);
                x.is(x.fail(), 0);
                x.is(x.mount(-1), 0);
                x.blockIs(5, cut[1], cut[2]);
            }
        }
    }

    private static void powerFailsOnBlockAfterBlock() {
        Run x = due.run("6 it is what is down of it, on what was down before");
        int first = 0;
        int last = 0;
        for (int i = 1; i <= 20; i++) {
            x.fuse(2);
            x.is(x.direct(63, i), OFF);
            int part = i * 7 % 4;
            x.is(x.mount(part), 0);
            first = part == 1 || part == 2 ? i : first;
            last = part == 1 || part == 3 ? i : last;
            x.blockIs(63, first, last);
            x.forget(63);
            x.blockIs(63, first, last);
            x.fail();
            x.mount(-1);
        }
    }

    private static void aFuseThatIsJustEnough() {
        Run x = due.run("6 a fuse of its three steps");
        x.fuse(3);
        x.is(x.direct(5, 2), 0);
        x.is(x.fuse(4), 0);
        x.is(x.direct(5, 3), 0);
        x.is(x.fuse(0), 1);
        x.blockIs(5, 3);
        x.is(x.direct(5, 4), OFF);
        x.is(x.mount(1), 0);
        x.blockIs(5, 3);
    }

    private static void behindACommitItIsNotUndone() {
        Run x = due.run("6 a revoked block that is written at home stays so");
        x.commitWhole(1, 2, 7);
        x.forget(1);
        x.commit();
        x.is(x.direct(1, 9), 0);
        x.is(x.clear(), 1);
        x.blockIs(1, 9);
        x.fail();
        x.is(x.mount(0), 0);
        x.blockIs(1, 9);
        x.blockIs(2, 7);
    }

    private static void refusedLeavesAll() {
        Twins.stayAlike(due, "6 BAD leaves all", Twins::full, x -> {
            for (int block : new int[] {-1, 64, 0, 2, 4, 5, 6, Integer.MIN_VALUE, Integer.MAX_VALUE}) {
                x.is(x.direct(block, 9), BAD);
            }
            for (int value : new int[] {-1, 256, Integer.MIN_VALUE, Integer.MAX_VALUE}) {
                x.is(x.direct(20, value), BAD);
            }
        });
    }

    private static void refusedTakesNoStep() {
        Run x = due.run("6 BAD takes no step");
        x.write(1, 0, 1, 1);
        x.fuse(0);
        x.is(x.direct(1, 2), BAD);
        x.is(x.direct(64, 2), BAD);
        x.is(x.direct(2, 256), BAD);
        x.is(x.read(1, 0), 1);
        x.is(x.fuse(-1), 0);
    }

    private static void isOff() {
        Twins.areOff(due, "6 direct is OFF, before BAD", x -> {
            x.is(x.direct(20, 1), OFF);
            x.is(x.direct(0, 1), OFF);
            x.is(x.direct(-1, 1), OFF);
            x.is(x.direct(64, 1), OFF);
            x.is(x.direct(0, -1), OFF);
            x.is(x.direct(0, 256), OFF);
        });
    }
}
