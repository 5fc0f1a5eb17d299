/** The boundary sentences of promise 12: count. */
final class CountBoundariesTest {
    private static final int OFF = RedoJournal.OFF;
    private static final int BAD = RedoJournal.BAD;

    private static final Due due = new Due();

    public static void main(String[] args) {
        firstAndLastNumber();
        noSuchNumber();
        allAreNone();
        transactionsOfTheLog();
        blocksOfTheRing();
        blocksThatLieInIt();
        blocksOfTheRunningTransaction();
        revokesOfTheRunningTransaction();
        stepsOfEachCall();
        stepsThatWereNotMade();
        blocksUnderWay();
        leavesAll();
        isOff();
        due.end();
    }

    private static void firstAndLastNumber() {
        Run x = due.run("12 BAD: no such number");
        x.is(x.count(-1), BAD);
        x.is(x.count(0), 0);
        x.is(x.count(6), 0);
        x.is(x.count(7), BAD);
    }

    private static void noSuchNumber() {
        Run x = due.run("12 BAD: no such number");
        for (int which : new int[] {-2, -6, -7, 8, 63, 64, 256, 1 << 16, Integer.MIN_VALUE, Integer.MAX_VALUE}) {
            x.is(x.count(which), BAD);
        }
    }

    private static void allAreNone() {
        Run x = due.run("12 none of all");
        x.counts(0, 0, 0, 0, 0, 0, 0, BAD);
        Twins.full(x);
        x.counts(2, 9, 2, 2, 2, 3 + 7 + 6, 0, BAD);
        x.lay(40);
        x.counts(0, 0, 0, 0, 0, 0, 0, BAD);
    }

    private static void transactionsOfTheLog() {
        Run x = due.run("12 0 how many transactions the log has");
        x.lay(200);
        for (int i = 1; i <= 99; i++) {
            x.forget(i % 64);
            x.commit();
            x.is(x.count(0), i);
        }
        x.clear();
        x.is(x.count(0), 0);
        x.commit();
        x.is(x.count(0), 0);
    }

    private static void blocksOfTheRing() {
        Run x = due.run("12 1 how many blocks of the ring are used by them");
        x.lay(200);
        int used = 0;
        for (int n = 30; n >= 24; n--) {
            x.commitWhole(n, n, n);
            used += n + (n <= 28 ? 2 : 3);
            x.is(x.count(1), used > 199 ? n + 2 : used);
        }
        x.clear();
        x.is(x.count(1), 0);
    }

    private static void blocksThatLieInIt() {
        Run x = due.run("12 2 how many blocks lie in it");
        x.lay(200);
        x.commitWhole(0, 30, 1);
        x.is(x.count(2), 30);
        x.commitWhole(34, 30, 1);
        x.is(x.count(2), 60);
        x.commitWhole(20, 24, 1);
        x.is(x.count(2), 64);
        x.forgetAll(10, 30);
        x.is(x.count(2), 64);
        x.commit();
        x.is(x.count(2), 34);
        x.commitWhole(10, 1, 1);
        x.is(x.count(2), 35);
        x.forget(10);
        x.write(10, 0, 1, 1);
        x.commit();
        x.is(x.count(2), 35);
    }

    private static void blocksOfTheRunningTransaction() {
        Run x = due.run("12 3 blocks of the running transaction");
        for (int block = 0; block < 34; block++) {
            x.write(block, 0, 1, 1);
            x.is(x.count(3), Math.min(block + 1, 30));
        }
        x.forget(40);
        x.is(x.count(3), 30);
        x.forget(0);
        x.is(x.count(3), 29);
        x.commit();
        x.is(x.count(3), 0);
    }

    private static void revokesOfTheRunningTransaction() {
        Run x = due.run("12 4 how many it revokes");
        for (int block = 0; block < 34; block++) {
            x.forget(block);
            x.is(x.count(4), Math.min(block + 1, 30));
        }
        x.write(40, 0, 1, 1);
        x.is(x.count(4), 30);
        x.write(0, 0, 1, 1);
        x.is(x.count(4), 29);
        x.commit();
        x.is(x.count(4), 0);
    }

    private static void stepsOfEachCall() {
        Run x = due.run("12 5 all steps since lay()");
        x.write(1, 0, 256, 1);
        x.read(1, 0);
        x.forget(2);
        x.fuse(1000);
        x.is(x.count(5), 0);
        x.commit();
        x.is(x.count(5), 6);
        x.direct(3, 1);
        x.is(x.count(5), 9);
        x.clear();
        x.is(x.count(5), 13);
        x.fail();
        x.mount(0);
        x.is(x.count(5), 13);
        x.commitWhole(1, 2, 1);
        x.is(x.count(5), 19);
        x.fail();
        x.mount(0);
        x.is(x.count(5), 24);
        x.is(x.lay(201), BAD);
        x.is(x.count(5), 24);
        x.lay(200);
        x.is(x.count(5), 0);
    }

    private static void stepsThatWereNotMade() {
        for (int fuse = 0; fuse <= 3; fuse++) {
            Run x = due.run("12 5 all steps, but not the one at which power failed");
            x.fuse(fuse);
            x.direct(1, 1);
            x.mount(0);
            x.is(x.count(5), fuse);
        }
    }

    private static void blocksUnderWay() {
        Run x = due.run("12 6 how many blocks are under way");
        x.write(1, 0, 1, 1);
        x.is(x.count(6), 0);
        x.commit();
        x.is(x.count(6), 0);
        x.direct(2, 1);
        x.is(x.count(6), 0);
        x.clear();
        x.is(x.count(6), 0);
        x.fuse(2);
        x.direct(2, 2);
        x.mount(0);
        x.is(x.count(6), 0);
    }

    private static void leavesAll() {
        Twins.stayAlike(due, "12 count leaves all", Twins::full, x -> {
            for (int which = -2; which <= 8; which++) {
                x.count(which);
            }
            x.is(x.count(-1), BAD);
            x.is(x.count(7), BAD);
        });
    }

    private static void isOff() {
        Twins.areOff(due, "12 count is OFF, before BAD", x -> {
            for (int which = -2; which <= 8; which++) {
                x.is(x.count(which), OFF);
            }
            x.is(x.count(Integer.MIN_VALUE), OFF);
            x.is(x.count(Integer.MAX_VALUE), OFF);
        });
    }
}
