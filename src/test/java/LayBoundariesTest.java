/** The boundary sentences of promises 1 and 2: a new object, and lay. */
final class LayBoundariesTest {
    private static final int OFF = RedoJournal.OFF;
    private static final int BAD = RedoJournal.BAD;

    private static final Due due = new Due();

    public static void main(String[] args) {
        newIsEmpty();
        newHasARingOf40();
        newIsAsLaid();
        leastRing();
        mostRing();
        everyRing();
        ringsThatAreFarOff();
        leastRingFull();
        mostRingFull();
        mostRingFullOfRevokes();
        everyRingFull();
        refusedLeavesAll();
        refusedLeavesTheRing();
        refusedLeavesPowerOff();
        allBlocksAreZeros();
        theHomesAreZeros();
        nothingIsUnderWay();
        theLogIsEmpty();
        nothingRuns();
        powerIsOn();
        noFuse();
        noSteps();
        laidAgainAndAgain();
        due.end();
    }

    private static void newIsEmpty() {
        Run x = due.run("1 a new object is empty");
        x.counts(0, 0, 0, 0, 0, 0, 0);
        for (int block = 0; block < 64; block++) {
            x.blockIs(block, 0);
        }
        x.is(x.mount(0), BAD);
        x.is(x.fuse(-1), -1);
        x.is(x.commit(), 0);
        x.is(x.clear(), 0);
        x.is(x.fail(), 0);
        x.is(x.mount(-1), 0);
        x.counts(0, 0, 0, 0, 0, 0, 0);
    }

    private static void newHasARingOf40() {
        Run x = due.run("1 As behind lay(40)");
        fillsUp(x, 40);
    }

    private static void newIsAsLaid() {
        Twins.stayAlike(due, "1 As behind lay(40)", x -> { }, x -> x.lay(40));
    }

    private static void leastRing() {
        Run x = due.run("2 not 40 .. 200");
        x.is(x.lay(39), BAD);
        x.is(x.lay(40), 40);
        x.is(x.lay(41), 41);
        x.is(x.lay(39), BAD);
    }

    private static void mostRing() {
        Run x = due.run("2 not 40 .. 200");
        x.is(x.lay(199), 199);
        x.is(x.lay(200), 200);
        x.is(x.lay(201), BAD);
        x.is(x.lay(200), 200);
    }

    private static void everyRing() {
        Run x = due.run("2 the ring has so many blocks: these");
        for (int ring = 30; ring <= 210; ring++) {
            x.is(x.lay(ring), ring < 40 || ring > 200 ? BAD : ring);
        }
    }

    private static void ringsThatAreFarOff() {
        Run x = due.run("2 not 40 .. 200");
        for (int ring : new int[] {Integer.MIN_VALUE, -200, -40, -1, 0, 1, 256, 296, 65576, Integer.MAX_VALUE}) {
            x.is(x.lay(ring), BAD);
        }
    }

    /** Commits till one block less than the ring's is used; another use clears first. */
    private static void fillsUp(Run x, int ring) {
        int used = 0;
        int commits = 0;
        while (ring - 1 - used > 4 || ring - 1 - used == 3) {
            x.is(x.commitWhole(commits % 64, 1, 1), 3);
            used += 3;
            commits++;
        }
        while (used < ring - 1) {
            x.forget(0);
            x.is(x.commit(), 2);
            used += 2;
            commits++;
        }
        x.is(x.count(0), commits);
        x.is(x.count(1), ring - 1);
        x.forget(1);
        x.is(x.commit(), 2);
        x.is(x.count(0), 1);
        x.is(x.count(1), 2);
    }

    private static void leastRingFull() {
        Run x = due.run("2 a ring of 40 takes 39");
        x.lay(40);
        fillsUp(x, 40);
    }

    private static void mostRingFull() {
        Run x = due.run("2 a ring of 200 takes 199");
        x.lay(200);
        fillsUp(x, 200);
    }

    private static void mostRingFullOfRevokes() {
        Run x = due.run("2 a ring of 200 takes 99 transactions of revokes alone");
        x.lay(200);
        for (int i = 1; i <= 99; i++) {
            x.forget(i % 64);
            x.is(x.commit(), 2);
            x.is(x.count(0), i);
        }
        x.is(x.count(1), 198);
        x.forget(0);
        x.is(x.commit(), 2);
        x.counts(1, 2, 0, 0, 0, 99 * 4 + 3 + 4, 0);
    }

    private static void everyRingFull() {
        for (int ring = 40; ring <= 200; ring++) {
            Run x = due.run("2 the ring has so many blocks");
            x.lay(ring);
            fillsUp(x, ring);
        }
    }

    private static void badLays(Run x) {
        for (int ring : new int[] {39, 201, 0, -1, Integer.MIN_VALUE, Integer.MAX_VALUE}) {
            x.is(x.lay(ring), BAD);
        }
    }

    private static void refusedLeavesAll() {
        Twins.stayAlike(due, "2 BAD leaves all", Twins::full, LayBoundariesTest::badLays);
    }

    private static void refusedLeavesTheRing() {
        for (int ring : new int[] {40, 41, 50, 199, 200}) {
            Run x = due.run("2 BAD leaves the ring");
            x.lay(ring);
            badLays(x);
            fillsUp(x, ring);
        }
    }

    private static void refusedLeavesPowerOff() {
        Twins.areOff(due, "2 BAD leaves power off", x -> {
            badLays(x);
            x.is(x.count(0), OFF);
        });
    }

    private static void allBlocksAreZeros() {
        Run x = due.run("2 All blocks are 0s");
        x.direct(63, 3);
        x.commitWhole(0, 3, 255);
        x.clear();
        x.commitWhole(2, 2, 7);
        x.writeWhole(5, 1, 9);
        x.lay(40);
        for (int block = 0; block < 64; block++) {
            x.blockIs(block, 0);
        }
    }

    private static void theHomesAreZeros() {
        Run x = due.run("2 All blocks are 0s, at home too");
        x.direct(63, 3);
        x.commitWhole(0, 3, 255);
        x.clear();
        x.commitWhole(2, 2, 7);
        x.lay(40);
        x.forget(63);
        x.blockIs(63, 0);
        x.fail();
        x.is(x.mount(-1), 0);
        for (int block = 0; block < 64; block++) {
            x.blockIs(block, 0);
        }
        x.fuse(2);
        x.is(x.direct(63, 5), OFF);
        x.is(x.mount(0), 0);
        x.blockIs(63, 0);
        x.fuse(2);
        x.is(x.direct(0, 5), OFF);
        x.is(x.mount(2), 0);
        x.blockIs(0, 5, 0);
    }

    private static void nothingIsUnderWay() {
        for (Twins.Calls off : new Twins.Calls[] {Twins::offInDirect, Twins::offInCommit, Twins::offInClear, Twins::offInMount}) {
            Run x = due.run("2 nothing is under way");
            off.on(x);
            x.is(x.lay(40), 40);
            x.is(x.count(6), 0);
            x.is(x.fail(), 0);
            x.is(x.mount(-1), 0);
            x.counts(0, 0, 0, 0, 0, 0, 0);
            for (int block = 0; block < 10; block++) {
                x.blockIs(block, 0);
            }
        }
    }

    private static void theLogIsEmpty() {
        Run x = due.run("2 the log is empty");
        Twins.full(x);
        x.is(x.lay(41), 41);
        x.counts(0, 0, 0);
        x.is(x.clear(), 0);
        x.is(x.direct(2, 1), 0);
        x.fail();
        x.is(x.mount(0), 0);
    }

    private static void nothingRuns() {
        Run x = due.run("2 nothing runs");
        Twins.full(x);
        x.is(x.lay(41), 41);
        x.is(x.count(3), 0);
        x.is(x.count(4), 0);
        x.is(x.commit(), 0);
        x.is(x.count(5), 0);
        x.is(x.direct(4, 1), 0);
        x.is(x.direct(6, 1), 0);
    }

    private static void powerIsOn() {
        Run x = due.run("2 power is on, whether it was or not");
        x.is(x.lay(40), 40);
        x.is(x.mount(0), BAD);
        x.fail();
        x.is(x.count(0), OFF);
        x.is(x.lay(40), 40);
        x.is(x.count(0), 0);
        x.is(x.mount(0), BAD);
        x.fuse(0);
        x.is(x.direct(1, 1), OFF);
        x.is(x.lay(200), 200);
        x.is(x.direct(1, 1), 0);
    }

    private static void noFuse() {
        Run x = due.run("2 no fuse");
        x.fuse(0);
        x.lay(40);
        x.is(x.direct(1, 1), 0);
        x.is(x.fuse(7), -1);
        x.lay(40);
        x.is(x.fuse(7), -1);
        x.fail();
        x.lay(40);
        x.is(x.fuse(-1), -1);
    }

    private static void noSteps() {
        Run x = due.run("2 all steps since lay()");
        x.direct(1, 1);
        x.is(x.count(5), 3);
        x.lay(40);
        x.is(x.count(5), 0);
        x.direct(1, 1);
        x.is(x.count(5), 3);
        x.fail();
        x.lay(40);
        x.is(x.count(5), 0);
    }

    private static void laidAgainAndAgain() {
        Run x = due.run("2 a log of its own each time");
        for (int i = 0; i < 100; i++) {
            x.lay(40 + i);
            x.write(i % 64, 0, 256, i + 1);
            x.is(x.commit(), 3);
            x.is(x.count(1), 3);
        }
        x.fail();
        x.is(x.mount(0), 1);
        x.blockIs(99 % 64, 100);
        x.blockIs(98 % 64, 0);
    }
}
