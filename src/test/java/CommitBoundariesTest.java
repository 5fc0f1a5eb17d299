/** The boundary sentences of promises 7 and 8, and of the terms TO COMMIT and CLEARING. */
final class CommitBoundariesTest {
    private static final int OFF = RedoJournal.OFF;
    private static final int BAD = RedoJournal.BAD;

    private static final Due due = new Due();

    public static void main(String[] args) {
        commitOfNothing();
        commitOfNothingTakesNoStep();
        commitOfNothingDoesNotClear();
        commitOfWhatWasLost();
        commitOfAForgottenBlock();
        commitOfRevokesAlone();
        commitOfEachSize();
        commitOfMost();
        commitFitsExactly();
        commitFitsOneLessThanExactly();
        commitOfManyFitsExactly();
        commitOfARevokeDecides();
        commitOfADescriptorDecides();
        commitInTheNextLargerRing();
        commitClearsWhatLiesThere();
        commitClearsRevokesAlone();
        commitGoesRoundAndRound();
        commitOfLargeOnesGoesRound();
        commitIsInTheLogFromItsStepOn();
        commitOfMostAtEachStep();
        commitThatClearsAtEachStep();
        commitWithAFuseThatIsJustEnough();
        commitKeepsItsBytes();
        commitIsOff();
        clearOfNothing();
        clearOfNothingTakesNoStep();
        clearOfOneBlock();
        clearOf64();
        clearOfRevokesAlone();
        clearOfTheLatest();
        clearOfRevokedOnes();
        clearByTheirNumbers();
        clearLeavesWhatRuns();
        clearAtEachStep();
        clearOfRevokesAloneAtEachStep();
        clearWithAFuseThatIsJustEnough();
        clearIsOff();
        callsTillThe512th();
        due.end();
    }

    /** 13 transactions, of a block each, 0 .. 12, with values 1 .. 13: 39 blocks of the ring. */
    private static void fill39(Run x) {
        for (int i = 0; i < 13; i++) {
            x.is(x.commitWhole(i, 1, i + 1), 3);
        }
        x.is(x.count(1), 39);
    }

    private static void commitOfNothing() {
        Run x = due.run("7 0 if it has and revokes nothing");
        x.is(x.commit(), 0);
        x.counts(0, 0, 0, 0, 0, 0, 0);
        x.write(1, 0, 1, 1);
        x.is(x.commit(), 3);
        x.is(x.commit(), 0);
        x.forget(1);
        x.is(x.commit(), 2);
        x.is(x.commit(), 0);
        x.is(x.clear(), 0);
        x.is(x.commit(), 0);
        x.counts(0, 0, 0, 0, 0, 5 + 4 + 3, 0);
    }

    private static void commitOfNothingTakesNoStep() {
        Run x = due.run("7 without a step");
        x.fuse(0);
        x.is(x.commit(), 0);
        x.is(x.count(5), 0);
        x.is(x.fuse(-1), 0);
    }

    private static void commitOfNothingDoesNotClear() {
        Run x = due.run("7 without a step, the ring being full");
        fill39(x);
        x.is(x.commit(), 0);
        x.counts(13, 39, 13, 0, 0, 65, 0);
    }

    private static void commitOfWhatWasLost() {
        Run x = due.run("7 0 if what ran was lost");
        x.write(1, 0, 1, 1);
        x.forget(2);
        x.fail();
        x.mount(0);
        x.is(x.commit(), 0);
        x.is(x.count(5), 0);
    }

    private static void commitOfAForgottenBlock() {
        Run x = due.run("7 a block that is forgotten is revoked, not had");
        x.write(1, 0, 1, 1);
        x.forget(1);
        x.is(x.commit(), 2);
        x.counts(1, 2, 0, 0, 0, 4, 0);
        x.forget(1);
        x.write(1, 0, 1, 1);
        x.is(x.commit(), 3);
        x.counts(2, 5, 1, 0, 0, 9, 0);
    }

    private static void commitOfRevokesAlone() {
        Run x = due.run("7 one more if it revokes some");
        x.forget(0);
        x.is(x.commit(), 2);
        x.forgetAll(0, 2);
        x.is(x.commit(), 2);
        x.forgetAll(34, 30);
        x.is(x.commit(), 2);
        x.counts(3, 6, 0, 0, 0, 12, 0);
    }

    private static void commitOfEachSize() {
        for (int n = 1; n <= 30; n++) {
            for (int revokes : new int[] {0, 1, 2, 30}) {
                Run x = due.run("7 its use");
                x.writeWhole(0, n, 1);
                x.forgetAll(30, revokes);
                int use = n + (n <= 28 ? 1 : 2) + (revokes == 0 ? 0 : 1) + 1;
                x.is(x.commit(), use);
                x.counts(1, use, n, 0, 0, use + 2, 0);
            }
        }
    }

    private static void commitOfMost() {
        Run x = due.run("7 the largest transaction fits into the least ring");
        x.writeWhole(0, 30, 1);
        x.forgetAll(30, 30);
        x.is(x.commit(), 34);
        x.counts(1, 34, 30, 0, 0, 36, 0);
        x.writeWhole(20, 30, 2);
        x.forgetAll(0, 20);
        x.is(x.commit(), 34);
        x.counts(1, 34, 30, 0, 0, 36 + 33 + 36, 0);
    }

    private static void commitFitsExactly() {
        Run x = due.run("7 more than the ring's blocks less 1");
        for (int i = 0; i < 12; i++) {
            x.is(x.commitWhole(i, 1, 1), 3);
        }
        x.is(x.commitWhole(12, 1, 1), 3);
        x.counts(13, 39, 13, 0, 0, 65, 0);
    }

    private static void commitFitsOneLessThanExactly() {
        Run x = due.run("7 more than the ring's blocks less 1: 40 of 40");
        for (int i = 0; i < 12; i++) {
            x.is(x.commitWhole(i, 1, 1), 3);
        }
        x.is(x.commitWhole(12, 2, 1), 4);
        x.counts(1, 4, 2, 0, 0, 60 + 15 + 6, 0);
    }

    private static void commitOfManyFitsExactly() {
        Run x = due.run("7 all transactions together, and this one: 6 and 33 of 40");
        x.commitWhole(40, 1, 1);
        x.commitWhole(41, 1, 1);
        x.is(x.commitWhole(0, 30, 2), 33);
        x.counts(3, 39, 32, 0, 0, 10 + 35, 0);
        x.lay(40);
        x.commitWhole(40, 2, 1);
        x.commitWhole(42, 1, 1);
        x.is(x.commitWhole(0, 30, 2), 33);
        x.counts(1, 33, 30, 0, 0, 6 + 5 + 6 + 35, 0);
    }

    private static void commitOfARevokeDecides() {
        Run x = due.run("7 one more if it revokes some: the one too many");
        x.commitWhole(40, 1, 1);
        x.commitWhole(41, 1, 1);
        x.writeWhole(0, 30, 2);
        x.forget(63);
        x.is(x.commit(), 34);
        x.counts(1, 34, 30, 0, 0, 10 + 5 + 36, 0);
    }

    private static void commitOfADescriptorDecides() {
        Run x = due.run("7 one more for each 28: the one too many");
        x.commitWhole(40, 3, 1);
        x.commitWhole(43, 1, 1);
        x.is(x.count(1), 8);
        x.is(x.commitWhole(0, 29, 2), 32);
        x.counts(1, 32, 29, 0, 0, 7 + 5 + 7 + 34, 0);
        x.lay(40);
        x.commitWhole(40, 4, 1);
        x.commitWhole(44, 1, 1);
        x.is(x.count(1), 9);
        x.is(x.commitWhole(0, 28, 2), 30);
        x.counts(3, 39, 33, 0, 0, 8 + 5 + 32, 0);
    }

    private static void commitInTheNextLargerRing() {
        Run x = due.run("7 the ring's blocks less 1: 40 of 41");
        x.lay(41);
        for (int i = 0; i < 12; i++) {
            x.is(x.commitWhole(i, 1, 1), 3);
        }
        x.is(x.commitWhole(12, 2, 1), 4);
        x.counts(13, 40, 14, 0, 0, 60 + 6, 0);
        x.forget(0);
        x.is(x.commit(), 2);
        x.counts(1, 2, 0, 0, 0, 66 + 17 + 4, 0);
    }

    private static void commitClearsWhatLiesThere() {
        Run x = due.run("7 CLEARING comes first");
        fill39(x);
        x.forget(3);
        x.write(0, 0, 1, 99);
        x.is(x.commit(), 4);
        x.counts(1, 4, 1, 0, 0, 65 + 16 + 6, 0);
        for (int block = 4; block < 13; block++) {
            x.is(x.direct(block, 200), 0);
        }
        x.fail();
        x.is(x.mount(0), 1);
        x.is(x.read(0, 0), 99);
        x.is(x.read(0, 1), 1);
        x.blockIs(1, 2);
        x.blockIs(3, 4);
        x.blockIs(4, 200);
    }

    private static void commitClearsRevokesAlone() {
        Run x = due.run("7 CLEARING comes first, though nothing lies in the log");
        for (int i = 0; i < 19; i++) {
            x.forget(i);
            x.is(x.commit(), 2);
        }
        x.counts(19, 38, 0, 0, 0, 76, 0);
        x.forget(0);
        x.is(x.commit(), 2);
        x.counts(1, 2, 0, 0, 0, 76 + 3 + 4, 0);
    }

    private static void commitGoesRoundAndRound() {
        Run x = due.run("7 round the ring again and again");
        int used = 0;
        int transactions = 0;
        for (int i = 0; i < 80; i++) {
            int n = i * 5 % 7 + 1;
            int use = n + 2;
            boolean clears = used + use > 39;
            transactions = clears ? 1 : transactions + 1;
            used = clears ? use : used + use;
            for (int k = 0; k < n; k++) {
                x.write((i + k) % 64, k, 1, i + 1);
            }
            x.is(x.commit(), use);
            if (i % 4 == 0) {
                x.is(x.count(0), transactions);
                x.is(x.count(1), used);
            }
        }
    }

    private static void commitOfLargeOnesGoesRound() {
        Run x = due.run("7 round the ring, alone in it each time");
        for (int i = 0; i < 12; i++) {
            x.is(x.commitWhole(i * 3, 30, i + 1), 33);
            x.is(x.count(0), 1);
            x.is(x.count(1), 33);
        }
        x.is(x.count(5), 12 * 35 + 11 * 33);
        x.fail();
        x.is(x.mount(0), 30);
        for (int block = 0; block < 63; block += 3) {
            int value = Math.min(block / 3, 11) + 1;
            x.blockIs(block, value);
        }
    }

    private static void commitIsInTheLogFromItsStepOn() {
        for (int fuse = 0; fuse <= 4; fuse++) {
            for (int part = 0; part < 4; part++) {
                Run x = due.run("7 it is in the log from the commit's step on");
                x.direct(3, 1);
                x.write(3, 100, 100, 2);
                x.fuse(fuse);
                x.is(x.commit(), OFF);
                boolean kept = fuse == 4 && (part == 1 || part == 2);
                x.is(x.mount(part), kept ? 1 : 0);
                x.is(x.read(3, 99), 1);
                x.is(x.read(3, 100), kept ? 2 : 1);
                x.is(x.read(3, 199), kept ? 2 : 1);
                x.is(x.read(3, 200), 1);
                x.counts(0, 0, 0, 0, 0, 3 + fuse + (kept ? 4 : 0), 0);
            }
        }
    }

    private static void commitOfMostAtEachStep() {
        for (int fuse = 0; fuse <= 35; fuse++) {
            for (long bits : new long[] {0, 1, 2, 3, -1}) {
                Run x = due.run("7 the largest transaction, at each step");
                x.writeWhole(0, 30, 5);
                x.forgetAll(30, 30);
                x.fuse(fuse);
                x.is(x.commit(), OFF);
                boolean kept = fuse == 35 && (bits == 1 || bits == 2);
                x.is(x.mount(bits), kept ? 30 : 0);
                x.counts(0, 0, 0, 0, 0, fuse + (kept ? 33 : 0), 0);
                x.blockIs(0, kept ? 5 : 0);
                x.blockIs(29, kept ? 5 : 0);
            }
        }
        Run x = due.run("7 the largest transaction, all of its steps");
        x.writeWhole(0, 30, 5);
        x.forgetAll(30, 30);
        x.fuse(36);
        x.is(x.commit(), 34);
        x.is(x.fuse(-1), 0);
    }

    private static void commitThatClearsAtEachStep() {
        for (int fuse = 0; fuse <= 20; fuse++) {
            for (long bits : new long[] {0, 1, 2, 3, -1, -2}) {
                Run x = due.run("7 CLEARING comes first, at each step");
                fill39(x);
                x.write(0, 0, 256, 99);
                x.fuse(fuse);
                x.is(x.commit(), OFF);
                boolean down = (bits & 3) == 1 || (bits & 3) == 2;
                boolean cleared = fuse > 15 || fuse == 15 && down;
                boolean committed = fuse == 20 && down;
                x.is(x.mount(bits), committed ? 1 : cleared ? 0 : 13);
                x.counts(0, 0, 0, 0, 0, 65 + fuse + (committed ? 4 : cleared ? 0 : 16), 0);
                x.blockIs(0, committed ? 99 : 1);
                for (int i = 1; i < 13; i++) {
                    x.blockIs(i, i + 1);
                }
            }
        }
    }

    private static void commitWithAFuseThatIsJustEnough() {
        Run x = due.run("7 a fuse of all its steps");
        x.write(1, 0, 1, 1);
        x.fuse(5);
        x.is(x.commit(), 3);
        x.is(x.fuse(-1), 0);
        x.lay(40);
        fill39(x);
        x.write(1, 0, 1, 1);
        x.fuse(21);
        x.is(x.commit(), 3);
        x.is(x.fuse(-1), 0);
        x.counts(1, 3, 1, 0, 0, 65 + 21, 0);
    }

    private static void commitKeepsItsBytes() {
        Run x = due.run("7 with the bytes that they had when it was committed");
        x.commitWhole(1, 1, 5);
        x.write(1, 0, 256, 6);
        x.is(x.clear(), 1);
        x.blockIs(1, 6);
        x.forget(1);
        x.blockIs(1, 5);
        x.commitWhole(1, 1, 7);
        x.write(1, 0, 256, 8);
        x.fail();
        x.is(x.mount(0), 1);
        x.blockIs(1, 7);
    }

    private static void commitIsOff() {
        Twins.areOff(due, "7 commit is OFF", x -> x.is(x.commit(), OFF));
        Run x = due.run("7 commit of nothing is OFF");
        x.fail();
        x.is(x.commit(), OFF);
    }

    private static void clearOfNothing() {
        Run x = due.run("8 0 if the log is empty");
        x.is(x.clear(), 0);
        x.write(1, 0, 1, 1);
        x.forget(2);
        x.is(x.clear(), 0);
        x.counts(0, 0, 0, 1, 1, 0, 0);
        x.is(x.commit(), 4);
        x.is(x.clear(), 1);
        x.is(x.clear(), 0);
        x.is(x.count(5), 6 + 4);
    }

    private static void clearOfNothingTakesNoStep() {
        Run x = due.run("8 without a step");
        x.fuse(0);
        x.is(x.clear(), 0);
        x.is(x.fuse(-1), 0);
        x.is(x.count(5), 0);
    }

    private static void clearOfOneBlock() {
        for (int block : new int[] {0, 31, 32, 63}) {
            Run x = due.run("8 how many blocks came home");
            x.commitWhole(block, 1, 3);
            x.is(x.clear(), 1);
            x.counts(0, 0, 0, 0, 0, 5 + 4, 0);
            x.fail();
            x.is(x.mount(0), 0);
            x.blockIs(block, 3);
        }
    }

    private static void clearOf64() {
        Run x = due.run("8 how many blocks came home, all there are");
        x.lay(200);
        x.commitWhole(0, 30, 1);
        x.commitWhole(30, 30, 2);
        x.commitWhole(60, 4, 3);
        x.counts(3, 72, 64);
        int steps = x.count(5);
        x.is(x.clear(), 64);
        x.counts(0, 0, 0, 0, 0, steps + 67, 0);
        x.fail();
        x.is(x.mount(0), 0);
        x.blockIs(0, 1);
        x.blockIs(29, 1);
        x.blockIs(30, 2);
        x.blockIs(59, 2);
        x.blockIs(60, 3);
        x.blockIs(63, 3);
    }

    private static void clearOfRevokesAlone() {
        Run x = due.run("8 the log is not empty, though no block lies in it");
        x.forget(1);
        x.commit();
        x.is(x.clear(), 0);
        x.counts(0, 0, 0, 0, 0, 4 + 3, 0);
        x.commitWhole(1, 1, 1);
        x.forget(1);
        x.commit();
        x.is(x.count(2), 0);
        x.is(x.clear(), 0);
        x.counts(0, 0, 0, 0, 0, 7 + 5 + 4 + 3, 0);
        x.forget(1);
        x.blockIs(1, 0);
    }

    private static void clearOfTheLatest() {
        Run x = due.run("8 the latest one that has it tells its bytes");
        for (int i = 1; i <= 13; i++) {
            x.commitWhole(2, 1, i);
        }
        x.counts(13, 39, 1);
        x.is(x.clear(), 1);
        x.forget(2);
        x.blockIs(2, 13);
        x.is(x.count(5), 65 + 4);
    }

    private static void clearOfRevokedOnes() {
        Run x = due.run("8 no later one revoked it");
        x.commitWhole(0, 4, 1);
        x.forget(0);
        x.forget(1);
        x.commit();
        x.commitWhole(1, 1, 2);
        x.counts(3, 6 + 2 + 3, 3);
        x.is(x.clear(), 3);
        x.fail();
        x.is(x.mount(0), 0);
        x.blockIs(0, 0);
        x.blockIs(1, 2);
        x.blockIs(2, 1);
        x.blockIs(3, 1);
    }

    private static void clearByTheirNumbers() {
        // Which blocks were down cannot be seen, since the log brings all of them home again.
        for (int fuse = 0; fuse <= 3; fuse++) {
            for (int bits = 0; bits < 64; bits++) {
                Run x = due.run("8 a step for each block that lies in the log, by their numbers");
                x.commitWhole(40, 1, 1);
                x.commitWhole(7, 1, 2);
                x.commitWhole(20, 1, 3);
                x.fuse(fuse);
                x.is(x.clear(), OFF);
                x.is(x.mount(bits), 3);
                x.is(x.count(5), 15 + fuse + 6);
                x.blockIs(40, 1);
                x.blockIs(7, 2);
                x.blockIs(20, 3);
            }
        }
    }

    private static void clearLeavesWhatRuns() {
        Run x = due.run("8 what runs goes on");
        x.commitWhole(1, 2, 1);
        x.write(2, 0, 1, 9);
        x.forget(3);
        x.is(x.clear(), 2);
        x.counts(0, 0, 0, 1, 1, 6 + 5, 0);
        x.is(x.read(2, 0), 9);
        x.is(x.read(2, 1), 1);
        x.is(x.direct(2, 1), BAD);
        x.is(x.direct(3, 1), BAD);
        x.is(x.commit(), 4);
    }

    private static void clearAtEachStep() {
        for (int fuse = 0; fuse <= 4; fuse++) {
            for (long bits : new long[] {0, 1, 2, 3, -1, 4, 8, 12, -4}) {
                Run x = due.run("8 the log is empty from the head's step on");
                x.commitWhole(0, 2, 2);
                x.fuse(fuse);
                x.is(x.clear(), OFF);
                boolean empty = fuse == 4 && ((bits & 3) == 1 || (bits & 3) == 2);
                x.is(x.mount(bits), empty ? 0 : 2);
                x.counts(0, 0, 0, 0, 0, 6 + fuse + (empty ? 0 : 5), 0);
                x.blockIs(0, 2);
                x.blockIs(1, 2);
            }
        }
    }

    private static void clearOfRevokesAloneAtEachStep() {
        for (int fuse = 0; fuse <= 2; fuse++) {
            for (int part = 0; part < 4; part++) {
                Run x = due.run("8 the log is empty from the head's step on, no block lying in it");
                x.forget(1);
                x.commit();
                x.fuse(fuse);
                x.is(x.clear(), OFF);
                boolean empty = fuse == 2 && (part == 1 || part == 2);
                x.is(x.mount(part), 0);
                x.is(x.count(5), 4 + fuse + (empty ? 0 : 3));
            }
        }
    }

    private static void clearWithAFuseThatIsJustEnough() {
        Run x = due.run("8 a fuse of all its steps");
        x.commitWhole(0, 2, 2);
        x.fuse(5);
        x.is(x.clear(), 2);
        x.is(x.fuse(-1), 0);
        x.forget(0);
        x.commit();
        x.fuse(3);
        x.is(x.clear(), 0);
        x.is(x.fuse(-1), 0);
    }

    private static void clearIsOff() {
        Twins.areOff(due, "8 clear is OFF", x -> x.is(x.clear(), OFF));
        Run x = due.run("8 clear of an empty log is OFF");
        x.fail();
        x.is(x.clear(), OFF);
    }

    private static void callsTillThe512th() {
        Run x = due.run("at most 512 calls");
        x.lay(200);
        for (int i = 0; i < 255; i++) {
            x.write(i % 64, 0, 256, i);
            x.is(x.commit(), 3);
        }
        x.is(x.read(254 % 64, 255), 254);
    }
}
