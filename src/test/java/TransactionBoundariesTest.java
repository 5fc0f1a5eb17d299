/** The boundary sentences of promises 3, 4 and 5: write, read and forget. */
final class TransactionBoundariesTest {
    private static final int OFF = RedoJournal.OFF;
    private static final int BAD = RedoJournal.BAD;
    private static final int[] NO_BLOCKS = {-1, 64, -64, 65, 128, Integer.MIN_VALUE, Integer.MAX_VALUE};
    private static final int[] NO_BYTES = {-1, 256, -256, 257, Integer.MIN_VALUE, Integer.MAX_VALUE};
    private static final int[] NO_LENGTHS = {0, 257, -1, -256, 512, Integer.MIN_VALUE, Integer.MAX_VALUE};
    private static final int[] NO_VALUES = {-1, 256, -255, -128, 511, Integer.MIN_VALUE, Integer.MAX_VALUE};

    private static final Due due = new Due();

    public static void main(String[] args) {
        writeOfFirstAndLastBlock();
        writeOfFirstAndLastByte();
        writeOfFewestAndMostBytes();
        writeTillTheBlocksEnd();
        writeOfLeastAndMostValue();
        writeKeepsToItsBytes();
        writeOf30Blocks();
        writeInAFullTransaction();
        writeMakesRoomByForgetting();
        writeOfRevokedInAFullTransaction();
        writeAfterACommitOf30();
        writeJoinsWhateverIsWritten();
        writeRevokesNoMore();
        writeRefusedLeavesAll();
        writeFullRefusedLeavesAll();
        writeIsOff();
        readOfFirstAndLast();
        readOfEachValue();
        readOfNone();
        readLeavesAll();
        readIsOff();
        forgetOfFirstAndLastBlock();
        forgetOfNone();
        forgetWhetherItRunsOrNot();
        forgetOf30();
        forgetWhenItRevokes30Others();
        forgetWhenItIsOneOfThe30();
        forgetMakesRoomByWriting();
        forgetOf30AndWriteOf30();
        forgetAfterACommitOf30();
        forgetIsNowWhatLiesAtHome();
        forgetRefusedLeavesAll();
        forgetFullRefusedLeavesAll();
        forgetIsOff();
        due.end();
    }

    private static void writeOfFirstAndLastBlock() {
        Run x = due.run("3 there are no such bytes: blocks");
        x.is(x.write(-1, 0, 1, 1), BAD);
        x.is(x.write(0, 0, 1, 1), 1);
        x.is(x.write(63, 0, 1, 1), 2);
        x.is(x.write(64, 0, 1, 1), BAD);
        for (int block : NO_BLOCKS) {
            x.is(x.write(block, 0, 1, 1), BAD);
            x.is(x.write(block, 0, 256, 1), BAD);
        }
        x.is(x.count(3), 2);
        x.is(x.read(0, 0), 1);
        x.is(x.read(63, 0), 1);
        x.is(x.read(62, 255), 0);
    }

    private static void writeOfFirstAndLastByte() {
        Run x = due.run("3 there are no such bytes: bytes");
        x.is(x.write(5, -1, 1, 1), BAD);
        x.is(x.write(5, 0, 1, 1), 1);
        x.is(x.write(5, 255, 1, 2), 1);
        x.is(x.write(5, 256, 1, 3), BAD);
        for (int at : NO_BYTES) {
            x.is(x.write(6, at, 1, 1), BAD);
            x.is(x.write(6, at, 256, 1), BAD);
        }
        x.is(x.write(6, -1, 2, 1), BAD);
        x.is(x.count(3), 1);
        x.is(x.read(5, 0), 1);
        x.is(x.read(5, 255), 2);
        x.blockIs(4, 0);
        x.blockIs(6, 0);
    }

    private static void writeOfFewestAndMostBytes() {
        Run x = due.run("3 n is not 1 .. 256");
        x.is(x.write(5, 0, 0, 1), BAD);
        x.is(x.write(5, 0, 1, 1), 1);
        x.is(x.write(6, 0, 256, 2), 2);
        x.is(x.write(7, 0, 257, 3), BAD);
        for (int n : NO_LENGTHS) {
            x.is(x.write(7, 0, n, 3), BAD);
            x.is(x.write(7, 255, n, 3), BAD);
        }
        x.is(x.write(7, 256, 0, 3), BAD);
        x.is(x.count(3), 2);
        x.is(x.read(5, 0), 1);
        x.is(x.read(5, 1), 0);
        x.blockIs(6, 2);
        x.blockIs(7, 0);
        x.blockIs(8, 0);
    }

    private static void writeTillTheBlocksEnd() {
        Run x = due.run("3 there are no such bytes: behind the block's end");
        for (int at : new int[] {0, 1, 2, 100, 127, 128, 254, 255}) {
            x.is(x.write(20, at, 256 - at, at), 1);
            x.is(x.read(20, 255), at);
            x.is(x.write(20, at, 257 - at, 77), BAD);
            x.is(x.read(20, at), at);
            x.is(x.read(20, 255), at);
            x.is(x.read(21, 0), 0);
        }
        x.is(x.write(63, 255, 1, 4), 2);
        x.is(x.write(63, 255, 2, 5), BAD);
        x.is(x.write(63, 1, 256, 5), BAD);
        x.is(x.write(62, 1, Integer.MAX_VALUE, 5), BAD);
        x.is(x.write(62, Integer.MAX_VALUE, 1, 5), BAD);
        x.is(x.write(62, Integer.MAX_VALUE, Integer.MAX_VALUE, 5), BAD);
        x.is(x.write(62, Integer.MAX_VALUE, 256, 5), BAD);
        x.is(x.count(3), 2);
        x.is(x.read(63, 254), 0);
    }

    private static void writeOfLeastAndMostValue() {
        Run x = due.run("3 value not 0 .. 255");
        x.is(x.write(5, 0, 1, -1), BAD);
        x.is(x.count(3), 0);
        x.is(x.write(5, 0, 1, 0), 1);
        x.is(x.write(5, 0, 1, 255), 1);
        x.is(x.write(5, 0, 1, 256), BAD);
        for (int value : NO_VALUES) {
            x.is(x.write(6, 0, 1, value), BAD);
        }
        x.is(x.count(3), 1);
        x.is(x.read(5, 0), 255);
        x.blockIs(6, 0);
    }

    private static void writeKeepsToItsBytes() {
        Run x = due.run("3 n bytes of a home block, from one on");
        x.writeWhole(10, 3, 9);
        x.is(x.write(11, 100, 50, 4), 3);
        x.is(x.read(11, 99), 9);
        x.is(x.read(11, 100), 4);
        x.is(x.read(11, 149), 4);
        x.is(x.read(11, 150), 9);
        x.is(x.write(11, 0, 256, 5), 3);
        x.blockIs(10, 9);
        x.blockIs(11, 5);
        x.blockIs(12, 9);
    }

    private static void writeOf30Blocks() {
        Run x = due.run("3 the transaction has 30 blocks without it");
        for (int i = 1; i <= 30; i++) {
            x.is(x.write(i, 0, 1, 1), i);
        }
        for (int block = 0; block < 64; block++) {
            x.is(x.write(block, 1, 1, 2), block >= 1 && block <= 30 ? 30 : BAD);
        }
        x.is(x.count(3), 30);
    }

    private static void writeInAFullTransaction() {
        Run x = due.run("3 the transaction has 30 blocks without it");
        x.writeWhole(0, 29, 1);
        x.is(x.write(63, 0, 1, 1), 30);
        x.is(x.write(29, 0, 1, 1), BAD);
        x.is(x.read(29, 0), 0);
        x.is(x.write(63, 1, 1, 2), 30);
        x.is(x.write(0, 0, 256, 2), 30);
        x.blockIs(0, 2);
        x.is(x.commit(), 33);
        x.is(x.count(2), 30);
    }

    private static void writeMakesRoomByForgetting() {
        Run x = due.run("3 the transaction has 30 blocks without it, one forgotten");
        x.writeWhole(0, 30, 1);
        x.is(x.write(40, 0, 1, 1), BAD);
        x.is(x.forget(7), 1);
        x.is(x.count(3), 29);
        x.is(x.write(40, 0, 1, 1), 30);
        x.is(x.write(41, 0, 1, 1), BAD);
    }

    private static void writeOfRevokedInAFullTransaction() {
        Run x = due.run("3 the transaction has 30 blocks without it, which is revoked");
        x.forget(50);
        x.writeWhole(0, 30, 1);
        x.is(x.write(50, 0, 1, 1), BAD);
        x.is(x.count(4), 1);
        x.is(x.read(50, 0), 0);
        x.is(x.commit(), 34);
    }

    private static void writeAfterACommitOf30() {
        Run x = due.run("3 the transaction has 30 blocks: the running one alone");
        x.writeWhole(0, 30, 1);
        x.commit();
        x.is(x.write(30, 0, 1, 1), 1);
        x.lay(40);
        x.writeWhole(0, 30, 1);
        x.fail();
        x.mount(0);
        x.is(x.write(30, 0, 1, 1), 1);
        x.lay(40);
        x.is(x.write(30, 0, 1, 1), 1);
    }

    private static void writeJoinsWhateverIsWritten() {
        Run x = due.run("3 a block in which a byte is written joins");
        x.is(x.write(3, 9, 1, 0), 1);
        x.is(x.count(3), 1);
        x.is(x.commit(), 3);
        x.is(x.write(3, 9, 1, 0), 1);
        x.is(x.commit(), 3);
    }

    private static void writeRevokesNoMore() {
        Run x = due.run("3 and is revoked by it no more");
        x.is(x.forget(3), 1);
        x.is(x.forget(4), 2);
        x.is(x.write(3, 0, 1, 1), 1);
        x.is(x.count(4), 1);
        x.is(x.write(4, 0, 1, 1), 2);
        x.is(x.count(4), 0);
        x.is(x.commit(), 4);
    }

    private static void writeRefusedLeavesAll() {
        Twins.stayAlike(due, "3 BAD leaves all", Twins::full, x -> {
            for (int block : NO_BLOCKS) {
                x.is(x.write(block, 0, 1, 1), BAD);
            }
            for (int block : new int[] {0, 4, 6, 20}) {
                x.is(x.write(block, -1, 1, 1), BAD);
                x.is(x.write(block, 256, 1, 1), BAD);
                x.is(x.write(block, 0, 0, 1), BAD);
                x.is(x.write(block, 0, 257, 1), BAD);
                x.is(x.write(block, 1, 256, 1), BAD);
                x.is(x.write(block, 0, 1, -1), BAD);
                x.is(x.write(block, 0, 256, 256), BAD);
            }
        });
    }

    private static void writeFullRefusedLeavesAll() {
        Twins.stayAlike(due, "3 BAD leaves all, the transaction being full", x -> {
            Twins.full(x);
            x.writeWhole(10, 28, 6);
            x.is(x.count(3), 30);
        }, x -> {
            x.is(x.write(6, 0, 256, 1), BAD);
            x.is(x.write(0, 0, 256, 1), BAD);
            x.is(x.write(63, 0, 256, 1), BAD);
            x.is(x.write(10, 0, 257, 1), BAD);
        });
    }

    private static void writeIsOff() {
        Twins.areOff(due, "3 write is OFF, before BAD", x -> {
            x.is(x.write(0, 0, 1, 1), OFF);
            x.is(x.write(63, 0, 256, 255), OFF);
            x.is(x.write(-1, 0, 1, 1), OFF);
            x.is(x.write(64, 0, 1, 1), OFF);
            x.is(x.write(0, 256, 1, 1), OFF);
            x.is(x.write(0, 0, 0, 1), OFF);
            x.is(x.write(0, 0, 257, 1), OFF);
            x.is(x.write(0, 0, 1, 256), OFF);
            x.is(x.write(0, 0, 1, -1), OFF);
        });
    }

    private static void readOfFirstAndLast() {
        Run x = due.run("4 BAD: there is none");
        x.write(0, 0, 1, 1);
        x.write(0, 255, 1, 2);
        x.write(63, 0, 1, 3);
        x.write(63, 255, 1, 4);
        x.is(x.read(0, -1), BAD);
        x.is(x.read(0, 0), 1);
        x.is(x.read(0, 255), 2);
        x.is(x.read(0, 256), BAD);
        x.is(x.read(63, -1), BAD);
        x.is(x.read(63, 0), 3);
        x.is(x.read(63, 255), 4);
        x.is(x.read(63, 256), BAD);
        x.is(x.read(-1, 0), BAD);
        x.is(x.read(-1, 255), BAD);
        x.is(x.read(64, 0), BAD);
        x.is(x.read(64, 255), BAD);
    }

    private static void readOfEachValue() {
        Run x = due.run("4 0 .. 255");
        for (int value = 0; value < 256; value++) {
            x.write(2, value, 1, value);
        }
        for (int value : new int[] {0, 1, 126, 127, 128, 129, 254, 255}) {
            x.is(x.read(2, value), value);
        }
        x.commit();
        x.fail();
        x.mount(0);
        for (int value = 0; value < 256; value += 3) {
            x.is(x.read(2, value), value);
        }
    }

    private static void readOfNone() {
        Run x = due.run("4 BAD: there is none");
        for (int block : NO_BLOCKS) {
            x.is(x.read(block, 0), BAD);
            x.is(x.read(block, 255), BAD);
        }
        for (int at : NO_BYTES) {
            x.is(x.read(1, at), BAD);
        }
        x.is(x.read(Integer.MAX_VALUE, Integer.MAX_VALUE), BAD);
        x.is(x.read(Integer.MIN_VALUE, Integer.MIN_VALUE), BAD);
        x.is(x.read(1 << 24, 0), BAD);
    }

    private static void readLeavesAll() {
        Twins.stayAlike(due, "4 read leaves all", Twins::full, x -> {
            x.is(x.read(0, 0), 0);
            x.is(x.read(2, 0), 8);
            x.is(x.read(20, 0), 0);
            x.is(x.read(64, 0), BAD);
            x.is(x.read(0, 256), BAD);
            x.is(x.read(-1, -1), BAD);
        });
    }

    private static void readIsOff() {
        Twins.areOff(due, "4 read is OFF, before BAD", x -> {
            x.is(x.read(0, 0), OFF);
            x.is(x.read(63, 255), OFF);
            x.is(x.read(-1, 0), OFF);
            x.is(x.read(64, 0), OFF);
            x.is(x.read(0, -1), OFF);
            x.is(x.read(0, 256), OFF);
        });
    }

    private static void forgetOfFirstAndLastBlock() {
        Run x = due.run("5 BAD: there is none");
        x.is(x.forget(-1), BAD);
        x.is(x.forget(0), 1);
        x.is(x.forget(63), 2);
        x.is(x.forget(64), BAD);
        x.is(x.count(4), 2);
    }

    private static void forgetOfNone() {
        Run x = due.run("5 BAD: there is none");
        for (int block : NO_BLOCKS) {
            x.is(x.forget(block), BAD);
        }
        x.is(x.count(4), 0);
        x.is(x.commit(), 0);
    }

    private static void forgetWhetherItRunsOrNot() {
        Run x = due.run("5 whether it is in the running transaction or not");
        x.writeWhole(1, 2, 9);
        x.is(x.forget(1), 1);
        x.is(x.count(3), 1);
        x.is(x.forget(5), 2);
        x.is(x.count(3), 1);
        x.is(x.forget(2), 3);
        x.is(x.count(3), 0);
        x.is(x.forget(2), 3);
        x.blockIs(1, 0);
        x.blockIs(2, 0);
        x.is(x.commit(), 2);
    }

    private static void forgetOf30() {
        Run x = due.run("5 or it revokes 30 others");
        for (int i = 1; i <= 30; i++) {
            x.is(x.forget(i), i);
        }
        for (int block = 0; block < 64; block++) {
            x.is(x.forget(block), block >= 1 && block <= 30 ? 30 : BAD);
        }
        x.is(x.count(4), 30);
        x.is(x.commit(), 2);
    }

    private static void forgetWhenItRevokes30Others() {
        Run x = due.run("5 or it revokes 30 others");
        x.writeWhole(30, 2, 5);
        x.forgetAll(0, 29);
        x.is(x.forget(30), 30);
        x.is(x.forget(31), BAD);
        x.is(x.count(3), 1);
        x.blockIs(30, 0);
        x.blockIs(31, 5);
        x.is(x.forget(64), BAD);
        x.is(x.commit(), 4);
        x.is(x.count(2), 1);
    }

    private static void forgetWhenItIsOneOfThe30() {
        Run x = due.run("5 or it revokes 30 others");
        x.forgetAll(0, 30);
        x.is(x.forget(0), 30);
        x.is(x.forget(29), 30);
        x.is(x.forget(30), BAD);
        x.is(x.count(4), 30);
    }

    private static void forgetMakesRoomByWriting() {
        Run x = due.run("5 or it revokes 30 others, one written");
        x.forgetAll(0, 30);
        x.is(x.write(7, 0, 1, 1), 1);
        x.is(x.count(4), 29);
        x.is(x.forget(40), 30);
        x.is(x.forget(7), BAD);
        x.is(x.read(7, 0), 1);
    }

    private static void forgetOf30AndWriteOf30() {
        Run x = due.run("5 30 blocks and 30 revokes");
        x.writeWhole(0, 30, 1);
        x.forgetAll(30, 30);
        x.is(x.count(3), 30);
        x.is(x.count(4), 30);
        x.is(x.write(60, 0, 1, 1), BAD);
        x.is(x.forget(60), BAD);
        x.is(x.forget(0), BAD);
        x.is(x.write(30, 0, 1, 1), BAD);
        x.is(x.commit(), 34);
        x.counts(1, 34, 30, 0, 0, 36, 0);
    }

    private static void forgetAfterACommitOf30() {
        Run x = due.run("5 it revokes 30 others: the running one alone");
        x.forgetAll(0, 30);
        x.commit();
        x.is(x.forget(30), 1);
        x.forgetAll(0, 29);
        x.fail();
        x.mount(0);
        x.is(x.forget(40), 1);
        x.lay(40);
        x.is(x.forget(41), 1);
    }

    private static void forgetIsNowWhatLiesAtHome() {
        Run x = due.run("5 is now what lies at home on the disk");
        x.direct(1, 3);
        x.write(1, 0, 200, 4);
        x.is(x.forget(1), 1);
        x.blockIs(1, 3);
        x.commitWhole(1, 1, 5);
        x.is(x.forget(1), 1);
        x.blockIs(1, 3);
        x.write(1, 255, 1, 6);
        x.is(x.read(1, 0), 3);
        x.is(x.commit(), 3);
        x.clear();
        x.is(x.forget(1), 1);
        x.is(x.read(1, 0), 3);
        x.is(x.read(1, 255), 6);
    }

    private static void forgetRefusedLeavesAll() {
        Twins.stayAlike(due, "5 BAD leaves all", Twins::full, x -> {
            for (int block : NO_BLOCKS) {
                x.is(x.forget(block), BAD);
            }
        });
    }

    private static void forgetFullRefusedLeavesAll() {
        Twins.stayAlike(due, "5 BAD leaves all, 30 being revoked", x -> {
            Twins.full(x);
            x.forgetAll(10, 28);
            x.is(x.count(4), 30);
        }, x -> {
            x.is(x.forget(4), BAD);
            x.is(x.forget(2), BAD);
            x.is(x.forget(63), BAD);
            x.is(x.forget(64), BAD);
        });
    }

    private static void forgetIsOff() {
        Twins.areOff(due, "5 forget is OFF, before BAD", x -> {
            x.is(x.forget(0), OFF);
            x.is(x.forget(4), OFF);
            x.is(x.forget(63), OFF);
            x.is(x.forget(-1), OFF);
            x.is(x.forget(64), OFF);
        });
    }
}
