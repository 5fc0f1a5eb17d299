/** The boundary sentences of promises 9 and 10, and of the term POWER. */
final class PowerBoundariesTest {
    private static final int OFF = RedoJournal.OFF;
    private static final int BAD = RedoJournal.BAD;

    private static final Due due = new Due();

    public static void main(String[] args) {
        fuseOfLeast();
        fuseOfMost();
        fuseOfWhatThereIsNot();
        fuseOfNone();
        fuseOfNoSteps();
        fuseTellsWhatWasLeft();
        fuseBeginsAnew();
        fuseCountsEachStep();
        fuseIsNotUsedUpWithoutSteps();
        fuseRefusedLeavesAll();
        fuseIsOff();
        failWithNothingUnderWay();
        failAgain();
        failLosesWhatRuns();
        failLeavesTheLog();
        failLeavesTheFuse();
        failTakesNoStep();
        failIsOff();
        theStepIsNotMade();
        offTillMounted();
        offBeforeBad();
        whatRunsIsLost();
        due.end();
    }

    private static void fuseOfLeast() {
        Run x = due.run("9 n is not -1 .. 100000");
        x.is(x.fuse(-2), BAD);
        x.is(x.fuse(-1), -1);
        x.is(x.fuse(0), -1);
        x.is(x.fuse(-2), BAD);
        x.is(x.fuse(1), 0);
        x.is(x.fuse(-1), 1);
        x.is(x.fuse(-1), -1);
    }

    private static void fuseOfMost() {
        Run x = due.run("9 n is not -1 .. 100000");
        x.is(x.fuse(100001), BAD);
        x.is(x.fuse(99999), -1);
        x.is(x.fuse(100000), 99999);
        x.is(x.fuse(100001), BAD);
        x.is(x.direct(1, 1), 0);
        x.is(x.fuse(100000), 99997);
        x.is(x.fuse(-1), 100000);
    }

    private static void fuseOfWhatThereIsNot() {
        Run x = due.run("9 n is not -1 .. 100000");
        for (int n : new int[] {-3, -100000, -100001, 100002, 200000, Integer.MIN_VALUE, Integer.MAX_VALUE}) {
            x.is(x.fuse(n), BAD);
        }
        x.is(x.fuse(-1), -1);
        x.is(x.direct(1, 1), 0);
    }

    private static void fuseOfNone() {
        Run x = due.run("9 -1 for no fuse");
        x.is(x.fuse(2), -1);
        x.is(x.fuse(-1), 2);
        x.is(x.direct(1, 1), 0);
        x.is(x.direct(1, 2), 0);
        x.is(x.fuse(-1), -1);
        x.is(x.fuse(-1), -1);
    }

    private static void fuseOfNoSteps() {
        Run x = due.run("9 0 more steps are made, then power fails");
        x.fuse(0);
        x.is(x.count(5), 0);
        x.is(x.direct(1, 1), OFF);
        x.is(x.mount(-1), 0);
        x.is(x.count(5), 0);
        x.write(1, 0, 1, 1);
        x.fuse(0);
        x.is(x.commit(), OFF);
        x.is(x.mount(-1), 0);
        x.is(x.count(5), 0);
        x.commitWhole(1, 1, 1);
        x.fuse(0);
        x.is(x.clear(), OFF);
        x.is(x.mount(-1), 1);
        x.is(x.count(5), 5 + 4);
        x.commitWhole(1, 1, 1);
        x.fuse(0);
        x.fail();
        x.is(x.mount(-1), OFF);
        x.is(x.mount(-1), 1);
        x.is(x.count(5), 9 + 5 + 4);
    }

    private static void fuseTellsWhatWasLeft() {
        Run x = due.run("9 how many were left");
        x.is(x.fuse(20), -1);
        x.is(x.fuse(20), 20);
        x.is(x.direct(1, 1), 0);
        x.is(x.fuse(20), 17);
        x.commitWhole(2, 2, 1);
        x.is(x.fuse(20), 14);
        x.clear();
        x.is(x.fuse(20), 15);
        x.commitWhole(2, 3, 1);
        x.fail();
        x.is(x.mount(0), 3);
        x.is(x.fuse(20), 20 - 7 - 6);
        x.is(x.fuse(6), 20);
        x.direct(1, 1);
        x.direct(1, 1);
        x.is(x.fuse(0), 0);
        x.is(x.fuse(-1), 0);
    }

    private static void fuseBeginsAnew() {
        Run x = due.run("9 from now on n more steps");
        x.fuse(4);
        x.is(x.direct(1, 1), 0);
        x.fuse(4);
        x.is(x.direct(1, 2), 0);
        x.fuse(2);
        x.is(x.direct(1, 3), OFF);
        x.is(x.mount(0), 0);
        x.blockIs(1, 2);
    }

    private static void fuseCountsEachStep() {
        for (int fuse = 0; fuse <= 20; fuse++) {
            Run x = due.run("9 n more steps are made, then power fails");
            x.fuse(fuse);
            int steps = 0;
            steps += 3;
            x.is(x.direct(9, 1), steps <= fuse ? 0 : OFF);
            x.writeWhole(0, 2, 1);
            steps += 6;
            x.is(x.commit(), steps <= fuse ? 4 : OFF);
            steps += 5;
            x.is(x.clear(), steps <= fuse ? 2 : OFF);
            x.is(x.fuse(-1), steps <= fuse ? fuse - steps : OFF);
            int answer = x.mount(0);
            x.is(answer == BAD ? 14 : x.count(5), Math.min(14, fuse) + (fuse >= 9 && fuse < 14 ? 5 : 0));
        }
    }

    private static void fuseIsNotUsedUpWithoutSteps() {
        Run x = due.run("9 one more would be");
        x.fuse(0);
        x.is(x.write(1, 0, 1, 1), 1);
        x.is(x.forget(1), 1);
        x.is(x.read(1, 0), 0);
        x.is(x.direct(1, 1), BAD);
        x.is(x.clear(), 0);
        x.is(x.count(4), 1);
        x.is(x.mount(0), BAD);
        x.is(x.lay(39), BAD);
        x.is(x.fail(), 0);
        x.is(x.mount(0), 0);
        x.is(x.commit(), 0);
        x.is(x.fuse(0), 0);
        x.is(x.direct(1, 1), OFF);
    }

    private static void fuseRefusedLeavesAll() {
        Twins.stayAlike(due, "9 BAD leaves all", Twins::full, x -> {
            for (int n : new int[] {-2, 100001, Integer.MIN_VALUE, Integer.MAX_VALUE}) {
                x.is(x.fuse(n), BAD);
            }
        });
    }

    private static void fuseIsOff() {
        Twins.areOff(due, "9 fuse is OFF, before BAD", x -> {
            x.is(x.fuse(0), OFF);
            x.is(x.fuse(-1), OFF);
            x.is(x.fuse(100000), OFF);
            x.is(x.fuse(-2), OFF);
            x.is(x.fuse(100001), OFF);
        });
    }

    private static void failWithNothingUnderWay() {
        Run x = due.run("10 how many blocks were under way");
        x.is(x.fail(), 0);
        x.mount(0);
        x.direct(1, 1);
        x.is(x.fail(), 0);
        x.mount(0);
        x.commitWhole(0, 30, 1);
        x.is(x.fail(), 0);
        x.mount(0);
        x.commitWhole(0, 30, 1);
        x.clear();
        x.write(1, 0, 1, 2);
        x.is(x.fail(), 0);
    }

    private static void failAgain() {
        Run x = due.run("10 power is off");
        x.is(x.fail(), 0);
        x.is(x.fail(), OFF);
        x.is(x.fail(), OFF);
        x.is(x.mount(0), 0);
        x.is(x.fail(), 0);
    }

    private static void failLosesWhatRuns() {
        Run x = due.run("10 what runs is lost");
        x.direct(1, 5);
        x.writeWhole(1, 2, 6);
        x.forget(3);
        x.fail();
        x.is(x.mount(-1), 0);
        x.counts(0, 0, 0, 0, 0, 3, 0);
        x.blockIs(1, 5);
        x.blockIs(2, 0);
        x.is(x.direct(2, 1), 0);
        x.is(x.direct(3, 1), 0);
    }

    private static void failLeavesTheLog() {
        Run x = due.run("10 power fails, the log does not");
        x.commitWhole(1, 2, 6);
        x.fail();
        x.is(x.mount(0), 2);
        x.blockIs(1, 6);
        x.blockIs(2, 6);
    }

    private static void failLeavesTheFuse() {
        for (int n : new int[] {-1, 0, 1, 100000}) {
            Run x = due.run("10 the fuse is as it was");
            x.fuse(n);
            x.fail();
            x.mount(0);
            x.is(x.fuse(-1), n);
        }
    }

    private static void failTakesNoStep() {
        Run x = due.run("10 without a step");
        x.direct(1, 1);
        x.fail();
        x.mount(0);
        x.is(x.count(5), 3);
    }

    private static void failIsOff() {
        Twins.areOff(due, "10 fail is OFF", x -> x.is(x.fail(), OFF));
    }

    private static void theStepIsNotMade() {
        Run x = due.run("POWER that step is not made, and the call answers OFF");
        x.fuse(1);
        x.is(x.direct(1, 1), OFF);
        x.mount(1);
        x.is(x.count(5), 1);
        x.blockIs(1, 0);
        x.write(1, 0, 1, 1);
        x.fuse(3);
        x.is(x.commit(), OFF);
        x.is(x.mount(1), 0);
        x.is(x.count(5), 4);
        x.is(x.read(1, 0), 0);
    }

    private static void offTillMounted() {
        Run x = due.run("POWER while power is off all calls answer OFF");
        x.commitWhole(1, 1, 1);
        x.fail();
        for (int i = 0; i < 3; i++) {
            x.is(x.write(1, 0, 1, 1), OFF);
            x.is(x.read(1, 0), OFF);
            x.is(x.forget(1), OFF);
            x.is(x.direct(2, 1), OFF);
            x.is(x.commit(), OFF);
            x.is(x.clear(), OFF);
            x.is(x.fuse(5), OFF);
            x.is(x.fail(), OFF);
            for (int which = 0; which <= 6; which++) {
                x.is(x.count(which), OFF);
            }
        }
        x.is(x.mount(0), 1);
        x.counts(0, 0, 0, 0, 0, 9, 0);
        x.is(x.fuse(-1), -1);
    }

    private static void offBeforeBad() {
        Run x = due.run("POWER OFF before BAD");
        x.writeWhole(0, 30, 1);
        x.forgetAll(30, 30);
        x.fail();
        x.is(x.write(63, 0, 1, 1), OFF);
        x.is(x.write(64, 0, 1, 1), OFF);
        x.is(x.read(64, 0), OFF);
        x.is(x.forget(63), OFF);
        x.is(x.forget(64), OFF);
        x.is(x.direct(0, 0), OFF);
        x.is(x.direct(64, 0), OFF);
        x.is(x.fuse(-2), OFF);
        x.is(x.count(-1), OFF);
        x.is(x.count(7), OFF);
        x.is(x.lay(39), BAD);
        x.is(x.lay(201), BAD);
        x.is(x.mount(0), 0);
    }

    private static void whatRunsIsLost() {
        Run x = due.run("POWER what runs is lost, whatever call was under way");
        x.commitWhole(1, 1, 1);
        x.write(2, 0, 1, 2);
        x.forget(3);
        x.fuse(0);
        x.is(x.direct(4, 1), OFF);
        x.is(x.mount(0), 1);
        x.counts(0, 0, 0, 0, 0, 9, 0);
        x.is(x.read(2, 0), 0);
        x.commitWhole(1, 1, 1);
        x.write(2, 0, 1, 2);
        x.forget(3);
        x.fuse(0);
        x.is(x.clear(), OFF);
        x.is(x.mount(0), 1);
        x.counts(0, 0, 0, 0, 0, 18, 0);
        x.is(x.read(2, 0), 0);
    }
}
