import java.math.BigInteger;

/** The edges that promises 7 to 9, SYNCING and CRASH name, each sentence in a test of its own. */
public final class SyncAndCrashEdgeTest {
    private static final Class<IndexOutOfBoundsException> INDEX = IndexOutOfBoundsException.class;
    private static final Class<IllegalArgumentException> ARGUMENT = IllegalArgumentException.class;
    private static final Class<UnsupportedOperationException> FULL = UnsupportedOperationException.class;
    private static final int[] NO_NUMBERS = {-1, 16, 32, Integer.MIN_VALUE, Integer.MAX_VALUE};
    private static final long FACTOR = 6364136223846793005L;
    private static final long STEP = 1442695040888963407L;
    /** Of the highest three bits the lowest: with it alone a keep is not 0. */
    private static final long NOT_ZERO = 1L << 61;

    private final Check check = new Check("SyncAndCrashEdgeTest");

    public static void main(String[] args) {
        SyncAndCrashEdgeTest test = new SyncAndCrashEdgeTest();
        test.syncedHasTheSamePages();
        test.syncOnAFullDisk();
        test.syncOfAFileNotThere();
        test.syncOfAnEmptyFile();
        test.syncFreesPagesOfNoRow();
        test.pagesThatWereNotSynced();
        test.syncOfNoNumber();
        test.crashWithKeepZero();
        test.crashWithKeepZeroOfWhatWasNeverSynced();
        test.crashAtLow();
        test.crashAroundTheSize();
        test.crashWithTheGreatestKeep();
        test.crashOfAnEmptyFile();
        test.syncedBecomesWhatNowIs();
        test.crashOfAFileNotThere();
        test.crashLeavesTheTapeAndTheOthers();
        test.crashOfNoNumber();
        test.crashWithKeepBelowZero();
        test.crashWithBothFaults();
        test.drawnBeforeEach();
        test.drawWraps();
        test.highestThreeBits();
        test.bits33To52();
        test.modulo();
        test.moduloOne();
        test.inTheirOrder();
        test.drawnForFilesNotThere();
        test.howManyAreThere();
        test.check.end();
    }

    private Drive on(String name, int pages) {
        return new Drive(check, name, pages);
    }

    /** "SYNCING a file: SYNCED becomes what NOW is, with the same pages." */
    private void syncedHasTheSamePages() {
        for (int size : new int[] {1, 63, 64, 65, 129}) {
            int pages = (size + 63) / 64;
            Drive drive = on("sync of " + size, 8);
            drive.tape(size, 5).append(0, 1, size).sync(0, pages).count(0, pages).count(2, 0);
            drive.file(0, size, size, size, 1, 1, pages, pages, pages).byteAt(0, true, size - 1, size + 4);
            drive.byteAtThrows(0, true, size).remove(0, true).count(0, pages).byteAt(0, true, 0, 5);
        }
    }

    /** The same sentence on a full disk: syncing needs no page. */
    private void syncOnAFullDisk() {
        Drive drive = on("sync on a full disk", 4);
        drive.tape(63, 0).append(0, 4, 252).count(0, 4).sync(0, 4).count(0, 4).tape(1, 0).appendThrows(0, 1, FULL);
    }

    /** The same sentence for a file that is not there: SYNCED is not there either then. */
    private void syncOfAFileNotThere() {
        Drive drive = on("sync of what is not there", 8);
        drive.sync(0, 0).file(0, 0, 0, 0, 0, 0, 0, 0, 0).tape(65, 0).append(0, 1, 65).sync(0, 2).remove(0, true);
        drive.sync(0, 0).file(0, 0, 0, 0, 0, 0, 0, 0, 0).count(0, 0).crash(0, 0, 0).fileIs(0, 3, 0);
    }

    /** The same sentence for a file without bytes: SYNCED is there then. */
    private void syncOfAnEmptyFile() {
        Drive drive = on("sync of an empty file", 8);
        drive.append(0, 1, 0).sync(0, 0).file(0, 0, 0, 0, 1, 1, 0, 0, 0).remove(0, true).fileIs(0, 4, 1);
        drive.crash(0, 0, 0).fileIs(0, 3, 1).count(4, 1);
    }

    /** The same sentence: what was synced before is in that row no more. */
    private void syncFreesPagesOfNoRow() {
        Drive drive = on("sync frees", 4);
        drive.tape(64, 0).append(0, 3, 192).sync(0, 3).remove(0, true).tape(64, 50).append(0, 1, 64).count(0, 4);
        drive.tape(1, 0).appendThrows(0, 1, FULL).sync(0, 1).count(0, 1);
        drive.byteAt(0, true, 0, 50).byteAtThrows(0, true, 64);
    }

    /** Promise 7: "how many pages its row has that were not in its synced row". */
    private void pagesThatWereNotSynced() {
        Drive drive = on("not in its synced row", 20);
        drive.tape(64, 0).append(0, 3, 192).sync(0, 3).sync(0, 0);
        drive.tape(1, 0).append(0, 1, 193).sync(0, 1).tape(1, 0).append(0, 1, 194).sync(0, 1);
        drive.cut(0, 100, 194).sync(0, 0).cut(0, 64, 100).tape(1, 0).append(0, 1, 65).sync(0, 1);
        drive.append(0, 1, 65).sync(0, 0).twin(0, 1, 65).sync(1, 2).twin(1, 0, 65).sync(0, 0).cut(0, 0, 65).sync(0, 0);
        // Those of its twin's synced row count: they were not in its own.
        drive.twin(1, 0, 65).sync(0, 2);
    }

    /** Promise 7: "IndexOutOfBoundsException, when there is no such number." */
    private void syncOfNoNumber() {
        Drive drive = on("sync of no number", 8);
        drive.tape(9, 0).append(0, 1, 9).tape(9, 0).append(15, 1, 9);
        String before = drive.state(0, 15);
        for (int file : NO_NUMBERS) {
            drive.syncThrows(file);
        }
        drive.unchanged(before, 0, 15);
    }

    /** "0: NOW becomes what SYNCED is": shorter, longer, other bytes, not there. */
    private void crashWithKeepZero() {
        Drive drive = on("keep 0", 8);
        drive.tape(70, 0).append(0, 1, 70).sync(0, 2);
        String synced = drive.state(0);
        drive.crash(0, 0, 70).unchanged(synced, 0).cut(0, 3, 70).crash(0, 0, 70).unchanged(synced, 0);
        drive = on("keep 0 behind writing", 8);
        drive.tape(70, 0).append(0, 1, 70).sync(0, 2).tape(70, 9).append(0, 1, 140).count(0, 4).crash(0, 0, 70);
        drive.file(0, 70, 70, 70, 1, 1, 2, 2, 2).count(0, 2).count(2, 1).byteAtThrows(0, false, 70);
        drive.cut(0, 0, 70).tape(70, 100).append(0, 1, 70).crash(0, 0, 70);
        drive.byteAt(0, false, 0, 0).byteAt(0, false, 69, 69);
        drive.remove(0, true).crash(0, 0, 70).file(0, 70, 70, 70, 1, 1, 2, 2, 2).count(4, 1);
    }

    /** The same sentence where SYNCED is not there: NOW is not there either then. */
    private void crashWithKeepZeroOfWhatWasNeverSynced() {
        Drive drive = on("keep 0, never synced", 8);
        drive.tape(70, 0).append(0, 1, 70).crash(0, 0, 0).file(0, 0, 0, 0, 0, 0, 0, 0, 0).count(0, 0).count(4, 0);
        drive.crash(0, 0, 0).fileIs(0, 3, 0);
    }

    /** "else NOW is cut to LOW + keep - 1": with 1 to LOW. */
    private void crashAtLow() {
        Drive drive = on("keep 1", 8);
        drive.tape(70, 0).append(0, 1, 70).crash(0, 1, 0).file(0, 0, 0, 0, 1, 1, 0, 0, 0).count(0, 0);
        drive.tape(70, 0).append(0, 1, 70).sync(0, 2).tape(9, 0).append(0, 1, 79).crash(0, 1, 70).fileIs(0, 1, 70);
        drive.cut(0, 64, 70).tape(9, 0).append(0, 1, 73).crash(0, 1, 64).file(0, 64, 64, 64, 1, 1, 1, 1, 1).count(0, 1);
    }

    /** The same sentence's "(when it is longer)": one below the size, the size, one above. */
    private void crashAroundTheSize() {
        int[][] keepAndSize = {{1, 64}, {2, 65}, {10, 73}, {11, 74}, {12, 74}, {13, 74}};
        for (int[] pair : keepAndSize) {
            Drive drive = on("keep " + pair[0] + " of LOW 64 and size 74", 8);
            drive.tape(70, 0).append(0, 1, 70).sync(0, 2).cut(0, 64, 70).tape(10, 100).append(0, 1, 74);
            int size = pair[1];
            drive.crash(0, pair[0], size).fileIs(0, 0, size).fileIs(0, 1, size).fileIs(0, 2, size);
            drive.byteAt(0, false, size - 1, size == 64 ? 63 : 36 + size - 1).byteAtThrows(0, false, size);
        }
    }

    /** The same sentence where LOW + keep - 1 is beyond all ints. */
    private void crashWithTheGreatestKeep() {
        for (int keep : new int[] {Integer.MAX_VALUE, Integer.MAX_VALUE - 1, Integer.MAX_VALUE - 63, 1 << 30}) {
            Drive drive = on("keep " + keep, 8);
            drive.tape(64, 0).append(0, 1, 64).sync(0, 1).tape(9, 0).append(0, 1, 73).crash(0, keep, 73);
            drive.file(0, 73, 73, 73, 1, 1, 2, 2, 2).crash(0, keep, 73);
        }
    }

    /** The same sentence for a file without bytes: it is there, and synced then. */
    private void crashOfAnEmptyFile() {
        Drive drive = on("crash of an empty file", 8);
        drive.append(0, 1, 0).crash(0, 1, 0).file(0, 0, 0, 0, 1, 1, 0, 0, 0);
        drive.append(1, 1, 0).crash(1, 9, 0).file(1, 0, 0, 0, 1, 1, 0, 0, 0);
        drive.remove(1, true).crash(1, 0, 0).fileIs(1, 3, 1);
    }

    /** "then SYNCED becomes what NOW is." */
    private void syncedBecomesWhatNowIs() {
        Drive drive = on("synced by a crash", 8);
        drive.tape(70, 0).append(0, 1, 70).sync(0, 2).cut(0, 10, 70).tape(20, 100).append(0, 1, 30).crash(0, 6, 15);
        drive.file(0, 15, 15, 15, 1, 1, 1, 1, 1).count(0, 1).byteAt(0, true, 9, 9).byteAt(0, true, 10, 100);
        drive.byteAt(0, true, 14, 104).sync(0, 0).cut(0, 0, 15).crash(0, 0, 15).tape(1, 0).append(0, 1, 16).count(0, 2);
    }

    /** "(With another keep than 0 a file that is not there stays so.)" */
    private void crashOfAFileNotThere() {
        for (int keep : new int[] {1, 2, 70, Integer.MAX_VALUE}) {
            Drive drive = on("not there, keep " + keep, 8);
            drive.crash(0, keep, 0).file(0, 0, 0, 0, 0, 0, 0, 0, 0);
            drive.tape(70, 0).append(0, 1, 70).sync(0, 2).remove(0, true);
            drive.crash(0, keep, 0).file(0, 0, 0, 0, 0, 0, 0, 0, 0);
            drive.count(0, 0).crash(0, 0, 0).fileIs(0, 3, 0).count(4, 0);
        }
    }

    /** Promise 8: "A crash of a file": of no other, and the tape is no file. */
    private void crashLeavesTheTapeAndTheOthers() {
        Drive drive = on("crash of one", 8);
        drive.tape(20, 0).append(0, 1, 20).twin(0, 1, 20).sync(1, 1).tape(5, 0).append(1, 1, 25).tape(3, 8);
        String other = drive.state(1);
        drive.crash(0, 21, 20).unchanged(other, 1).count(3, 3).append(2, 1, 3).byteAt(2, false, 0, 8);
    }

    /** Promise 8: "IndexOutOfBoundsException, when there is no such number". */
    private void crashOfNoNumber() {
        Drive drive = on("crash of no number", 8);
        drive.tape(9, 0).append(0, 1, 9).tape(9, 0).append(15, 1, 9);
        String before = drive.state(0, 15);
        for (int file : NO_NUMBERS) {
            drive.crashThrows(file, 0, INDEX).crashThrows(file, 1, INDEX);
        }
        drive.unchanged(before, 0, 15);
    }

    /** Promise 8: "IllegalArgumentException, when keep is below 0." */
    private void crashWithKeepBelowZero() {
        Drive drive = on("keep below 0", 8);
        drive.tape(9, 0).append(0, 1, 9);
        String before = drive.state(0, 1);
        for (int keep : new int[] {-1, -2, Integer.MIN_VALUE, Integer.MIN_VALUE + 1}) {
            drive.crashThrows(0, keep, ARGUMENT).crashThrows(1, keep, ARGUMENT);
        }
        drive.unchanged(before, 0, 1);
    }

    /** Promise 8 where both exceptions would be due: the first in the document comes. */
    private void crashWithBothFaults() {
        on("crash, both faults", 8).crashThrows(16, -1, INDEX).crashThrows(-1, Integer.MIN_VALUE, INDEX);
    }

    /** The row with which file 0 draws this number, or file k if it goes back k draws more. */
    private static long rowThatDraws(long drawn, int file) {
        long inverse = 1;
        // Each step doubles how many of its lowest bits are right.
        for (int i = 0; i < 6; i++) {
            inverse *= 2 - FACTOR * inverse;
        }
        long row = drawn;
        for (int i = 0; i <= file; i++) {
            row = (row - STEP) * inverse;
        }
        return row;
    }

    /** File k of 16 was synced with 20 bytes, and has LOW 12 and 42 bytes now; it crashes by this draw. */
    private void drawn(String name, int file, long drawn, int due) {
        Drive drive = on(name, 20);
        drive.tape(20, 0).append(file, 1, 20).sync(file, 1).cut(file, 12, 20).tape(30, 50).append(file, 1, 42);
        drive.crashAll(rowThatDraws(drawn, file), 1).file(file, due, due, due, 1, 1, 1, 1, 1).count(0, 1);
        drive.byteAt(file, false, due - 1, drawn >>> 61 == 0 || due == 12 ? due - 1 : due + 37);
    }

    /** Promise 9: "row is row * 6364136223846793005 + 1442695040888963407 (wrapping) before each". */
    private void drawnBeforeEach() {
        for (int file = 0; file <= 15; file++) {
            drawn("draw of file " + file + ": 0", file, 5, 20);
            drawn("draw of file " + file + ": LOW", file, NOT_ZERO, 12);
            drawn("draw of file " + file + ": LOW + 1", file, NOT_ZERO | 1L << 33, 13);
        }
    }

    /** Promise 9: "(wrapping)". */
    private void drawWraps() {
        long[] rows = {Long.MAX_VALUE, Long.MIN_VALUE, -1, 1, 0, 1L << 62};
        for (long row : rows) {
            BigInteger drawn = BigInteger.valueOf(row).multiply(BigInteger.valueOf(FACTOR))
                    .add(BigInteger.valueOf(STEP)).mod(BigInteger.ONE.shiftLeft(64));
            int bits = drawn.shiftRight(33).mod(BigInteger.ONE.shiftLeft(20)).intValue();
            boolean zero = drawn.shiftRight(61).signum() == 0;
            int due = zero ? 20 : Math.min(42, 12 + bits % 61);
            drawn("row " + row, 0, drawn.longValue(), due);
            check.compare("row that draws", String.valueOf(row), String.valueOf(rowThatDraws(drawn.longValue(), 0)));
        }
    }

    /** Promise 9: "keep is 0 when its highest three bits are 0". */
    private void highestThreeBits() {
        drawn("no bit", 0, 0, 20);
        drawn("all lower bits", 0, NOT_ZERO - 1, 20);
        drawn("the lowest of the three", 0, 1L << 61, 12);
        drawn("the middle one", 0, 1L << 62, 12);
        drawn("the highest one", 0, 1L << 63, 12);
        drawn("all three", 0, 7L << 61, 12);
    }

    /** Promise 9: "(its bits 33 to 52, the lowest being bit 0)". */
    private void bits33To52() {
        drawn("bit 32 and all below", 0, NOT_ZERO | (1L << 33) - 1, 12);
        drawn("bit 33", 0, NOT_ZERO | 1L << 33, 13);
        drawn("bit 37", 0, NOT_ZERO | 1L << 37, 28);
        // 2 to the 19th is 54 modulo 61: beyond the size.
        drawn("bit 52", 0, NOT_ZERO | 1L << 52, 42);
        drawn("bit 53 to 60", 0, NOT_ZERO | 255L << 53, 12);
        // 2 to the 20th, less 1, is 46 modulo 61.
        drawn("all the bits", 0, -1L, 42);
    }

    /** Promise 9: "1 more than .. modulo (2 * (NOW's size - LOW) + 1)". */
    private void modulo() {
        int[][] bitsAndDue = {{0, 12}, {1, 13}, {29, 41}, {30, 42}, {31, 42}, {60, 42}, {61, 12}, {62, 13}, {121, 42},
            {122, 12}, {61 * 17189, 12}, {61 * 17189 + 8, 20}};
        for (int[] pair : bitsAndDue) {
            drawn("bits " + pair[0], 0, NOT_ZERO | (long) pair[0] << 33, pair[1]);
        }
    }

    /** The same sentence where NOW's size is LOW: modulo 1, so nothing is cut. */
    private void moduloOne() {
        for (long bits : new long[] {0, 1, 2, (1L << 20) - 1}) {
            Drive drive = on("size is LOW, bits " + bits, 8);
            drive.tape(20, 0).append(0, 1, 20).sync(0, 1).crashAll(rowThatDraws(NOT_ZERO | bits << 33, 0), 1);
            drive.file(0, 20, 20, 20, 1, 1, 1, 1, 1).cut(0, 7, 20).crashAll(rowThatDraws(NOT_ZERO | bits << 33, 0), 1);
            drive.file(0, 7, 7, 7, 1, 1, 1, 1, 1);
        }
    }

    /** Promise 9: "A crash of all files, in their order". */
    private void inTheirOrder() {
        for (long row = 1; row <= 8; row++) {
            Drive drive = on("all files, row " + row, 40);
            drive.tape(50, 0).append(0, 1, 50);
            for (int file = 1; file <= 15; file++) {
                drive.twin(0, file, 50);
            }
            int[] due = new int[16];
            int there = 0;
            long drawn = row;
            for (int file = 0; file <= 15; file++) {
                drawn = drawn * FACTOR + STEP;
                boolean gone = drawn >>> 61 == 0;
                due[file] = gone ? 0 : Math.min(50, (int) (drawn >>> 33 & 0xFFFFF) % 101);
                there += gone ? 0 : 1;
            }
            drive.crashAll(row, there).count(4, there).count(0, 1).count(2, 0);
            for (int file = 0; file <= 15; file++) {
                drive.fileIs(file, 0, due[file]).fileIs(file, 1, due[file]).fileIs(file, 2, due[file]);
            }
        }
    }

    /** The same sentence: a file that is not there has its draw, too, and stays so but for keep 0. */
    private void drawnForFilesNotThere() {
        drawn("the last of them", 15, NOT_ZERO | 5L << 33, 17);
        Drive drive = on("not there", 8);
        drive.tape(9, 0).append(0, 1, 9).sync(0, 1).remove(0, true).crashAll(rowThatDraws(0, 0), 1).fileIs(0, 0, 9);
        drive.remove(0, true).crashAll(rowThatDraws(NOT_ZERO | 5L << 33, 0), 0).file(0, 0, 0, 0, 0, 0, 0, 0, 0);
        drive.count(0, 0);
    }

    /** Promise 9: "How many files are there then." */
    private void howManyAreThere() {
        on("none there", 8).crashAll(0, 0).crashAll(-1, 0).crashAll(Long.MIN_VALUE, 0).crashAll(Long.MAX_VALUE, 0);
        Drive drive = on("all there", 8);
        for (int file = 0; file <= 15; file++) {
            drive.append(file, 1, 0).sync(file, 0);
        }
        drive.tape(3, 0).crashAll(77, 16).crashAll(-77, 16).count(4, 16).count(3, 3).count(0, 0);
    }
}
