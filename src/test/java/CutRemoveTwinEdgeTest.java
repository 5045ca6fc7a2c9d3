import java.util.NoSuchElementException;

/** The edges that promises 4 to 6 name, each sentence in a test of its own. */
public final class CutRemoveTwinEdgeTest {
    private static final Class<IndexOutOfBoundsException> INDEX = IndexOutOfBoundsException.class;
    private static final Class<NoSuchElementException> NO_FILE = NoSuchElementException.class;
    private static final Class<IllegalArgumentException> ARGUMENT = IllegalArgumentException.class;
    private static final Class<UnsupportedOperationException> FULL = UnsupportedOperationException.class;
    private static final int[] NO_NUMBERS = {-1, 16, 32, Integer.MIN_VALUE, Integer.MAX_VALUE};

    private final Check check = new Check("CutRemoveTwinEdgeTest");

    public static void main(String[] args) {
        CutRemoveTwinEdgeTest test = new CutRemoveTwinEdgeTest();
        test.cutToTheSameSize();
        test.cutToNothing();
        test.cutOfAnEmptyFile();
        test.cutFreesPagesOfNoRow();
        test.cutLeavesTheOtherRows();
        test.cutOfNoNumber();
        test.cutOfAFileNotThere();
        test.cutToNoSize();
        test.cutWithSeveralFaults();
        test.removeOfAFileNotThere();
        test.removeOfAnEmptyFile();
        test.removeTakesNowAlone();
        test.removeSetsLow();
        test.removeFreesPagesOfNoRow();
        test.removeOfNoNumber();
        test.twinHasTheSamePages();
        test.twinOnAFullDisk();
        test.twinOfAnEmptyFile();
        test.twinOverALongerFile();
        test.twinOverItsOwnTwin();
        test.twinSetsLow();
        test.twinOfItself();
        test.twinLeavesSynced();
        test.twinOfNoNumber();
        test.twinOfAFileNotThere();
        test.twinWithSeveralFaults();
        test.check.end();
    }

    private Drive on(String name, int pages) {
        return new Drive(check, name, pages);
    }

    /** Promise 4: "Cuts a file to a size: how many bytes it had before", to the size that it has. */
    private void cutToTheSameSize() {
        for (int size : new int[] {1, 63, 64, 65}) {
            Drive drive = on("cut to the same, " + size, 8);
            drive.tape(size, 0).append(0, 1, size).sync(0, (size + 63) / 64);
            String before = drive.state(0);
            drive.cut(0, size, size).cut(0, size, size).unchanged(before, 0);
        }
    }

    /** Promise 4 with size 0: the file is there all the same. */
    private void cutToNothing() {
        Drive drive = on("cut to nothing", 8);
        drive.tape(65, 0).append(0, 1, 65).cut(0, 0, 65).file(0, 0, 0, 0, 1, 0, 0, 0, 0).count(0, 0).count(4, 1);
        drive.byteAtThrows(0, false, 0).sync(0, 0).file(0, 0, 0, 0, 1, 1, 0, 0, 0).tape(2, 7).append(0, 1, 2);
        drive.byteAt(0, false, 0, 7).cut(0, 1, 2).byteAt(0, false, 0, 7).byteAtThrows(0, false, 1);
    }

    /** Promise 4 for a file without bytes: 0 is its only size. */
    private void cutOfAnEmptyFile() {
        Drive drive = on("cut of an empty file", 8);
        drive.append(0, 1, 0).cut(0, 0, 0).fileIs(0, 3, 1).cutThrows(0, 1, ARGUMENT).cutThrows(0, -1, ARGUMENT);
    }

    /** Promise 4: pages that leave the last row are unused then, and may come elsewhere. */
    private void cutFreesPagesOfNoRow() {
        Drive drive = on("cut frees", 4);
        drive.tape(64, 0).append(0, 4, 256).cut(0, 193, 256).count(0, 4).tape(1, 0).appendThrows(1, 1, FULL);
        drive.cut(0, 192, 193).count(0, 3).tape(64, 100).append(1, 1, 64).count(0, 4);
        drive.cut(0, 1, 192).count(0, 2).tape(64, 150).append(1, 2, 192).count(0, 4);
        drive.byteAt(0, false, 0, 0).byteAt(1, false, 63, 163).byteAt(1, false, 64, 150).byteAt(1, false, 191, 213);
    }

    /** Promise 4 of a file whose pages are in other rows. */
    private void cutLeavesTheOtherRows() {
        Drive drive = on("cut leaves others", 4);
        drive.tape(50, 0).append(0, 5, 250).sync(0, 4).twin(0, 1, 250).cut(0, 10, 250).count(0, 4);
        drive.file(0, 10, 250, 10, 1, 1, 1, 4, 1).file(1, 250, 0, 0, 1, 0, 4, 0, 4).byteAt(1, false, 249, 49);
        drive.byteAt(0, true, 249, 49).sync(0, 0).count(0, 4);
        drive.file(1, 250, 0, 0, 1, 0, 4, 0, 1).byteAt(1, false, 249, 49);
    }

    /** Promise 4: "IndexOutOfBoundsException, when there is no such number". */
    private void cutOfNoNumber() {
        Drive drive = on("cut of no number", 8);
        drive.tape(9, 0).append(0, 1, 9).tape(9, 0).append(15, 1, 9);
        String before = drive.state(0, 15);
        for (int file : NO_NUMBERS) {
            drive.cutThrows(file, 0, INDEX);
        }
        drive.unchanged(before, 0, 15);
    }

    /** Promise 4: "NoSuchElementException, when the file is not there". */
    private void cutOfAFileNotThere() {
        Drive drive = on("cut of what is not there", 8);
        drive.cutThrows(0, 0, NO_FILE).tape(9, 0).append(0, 1, 9).sync(0, 1).remove(0, true);
        String before = drive.state(0);
        drive.cutThrows(0, 0, NO_FILE).cutThrows(0, 9, NO_FILE).unchanged(before, 0);
        drive.crash(0, 0, 9).cut(0, 0, 9).append(1, 1, 0).crash(1, 0, 0).cutThrows(1, 0, NO_FILE);
    }

    /** Promise 4: "IllegalArgumentException, when it is not 0 .. its size." */
    private void cutToNoSize() {
        Drive drive = on("cut to no size", 8);
        drive.tape(65, 0).append(0, 1, 65).sync(0, 2).cut(0, 20, 65);
        String before = drive.state(0);
        for (int size : new int[] {-1, 21, 64, 65, Integer.MIN_VALUE, Integer.MAX_VALUE}) {
            drive.cutThrows(0, size, ARGUMENT);
        }
        drive.unchanged(before, 0).cut(0, 20, 20).cut(0, 0, 20);
    }

    /** Promise 4 where several exceptions would be due: the first in the document comes. */
    private void cutWithSeveralFaults() {
        on("cut, several faults", 8).cutThrows(16, -1, INDEX).cutThrows(-1, 99, INDEX).cutThrows(3, -1, NO_FILE)
                .cutThrows(3, Integer.MAX_VALUE, NO_FILE);
    }

    /** Promise 5: "whether it was", of a file that was not. */
    private void removeOfAFileNotThere() {
        Drive drive = on("remove of what is not there", 8);
        drive.remove(0, false).tape(9, 0).append(0, 1, 9).sync(0, 1).remove(0, true);
        String before = drive.state(0);
        drive.remove(0, false).remove(0, false).unchanged(before, 0);
    }

    /** Promise 5: "whether it was", of a file without bytes. */
    private void removeOfAnEmptyFile() {
        on("remove of an empty file", 8).append(0, 1, 0).remove(0, true).fileIs(0, 3, 0).count(4, 0).remove(0, false);
    }

    /** Promise 5: "A file is not there any more (NOW". */
    private void removeTakesNowAlone() {
        Drive drive = on("remove takes NOW alone", 8);
        drive.tape(65, 0).append(0, 1, 65).sync(0, 2).twin(0, 1, 65).remove(0, true).count(0, 2).count(4, 1);
        drive.file(0, 0, 65, 0, 0, 1, 0, 2, 0).file(1, 65, 0, 0, 1, 0, 2, 0, 2).byteAtThrows(0, false, 0);
        drive.byteAt(0, true, 64, 64).byteAt(1, false, 64, 64).crash(0, 0, 65).byteAt(0, false, 64, 64);
    }

    /** Promise 5: "its LOW is 0". */
    private void removeSetsLow() {
        Drive drive = on("remove sets LOW", 8);
        drive.tape(65, 0).append(0, 1, 65).sync(0, 2).fileIs(0, 2, 65).remove(0, true).fileIs(0, 2, 0);
        drive.tape(30, 0).append(0, 1, 30).fileIs(0, 2, 0).crash(0, 11, 10).fileIs(0, 2, 10);
    }

    /** Promise 5: pages that leave the last row are unused then. */
    private void removeFreesPagesOfNoRow() {
        Drive drive = on("remove frees", 4);
        drive.tape(64, 0).append(0, 4, 256).tape(1, 0).appendThrows(1, 1, FULL).remove(0, true).count(0, 0);
        drive.tape(64, 50).append(1, 4, 256).count(0, 4).byteAt(1, false, 255, 113);
    }

    /** Promise 5: "IndexOutOfBoundsException, when there is no such number." */
    private void removeOfNoNumber() {
        Drive drive = on("remove of no number", 8);
        drive.tape(9, 0).append(0, 1, 9).tape(9, 0).append(15, 1, 9);
        String before = drive.state(0, 15);
        for (int file : NO_NUMBERS) {
            drive.removeThrows(file);
        }
        drive.unchanged(before, 0, 15);
    }

    /** Promise 6: "NOW of file to becomes what NOW of file from is, with the same pages .. its size". */
    private void twinHasTheSamePages() {
        for (int size : new int[] {1, 63, 64, 65, 129}) {
            int pages = (size + 63) / 64;
            Drive drive = on("twin of " + size, 8);
            drive.tape(size, 3).append(0, 1, size).twin(0, 15, size).count(0, pages).count(2, 0).count(4, 2);
            drive.file(15, size, 0, 0, 1, 0, pages, 0, pages).byteAt(15, false, size - 1, size + 2);
            drive.byteAtThrows(15, false, size).remove(0, true).count(0, pages).byteAt(15, false, 0, 3);
        }
    }

    /** The same sentence on a full disk: a twin needs no page. */
    private void twinOnAFullDisk() {
        Drive drive = on("twin on a full disk", 4);
        drive.tape(63, 0).append(0, 4, 252).count(0, 4).twin(0, 1, 252).twin(1, 2, 252).count(0, 4);
        drive.tape(1, 0).appendThrows(2, 1, FULL).count(2, 0).byteAt(2, false, 251, 62);
    }

    /** The same sentence for a file without bytes: the twin is there. */
    private void twinOfAnEmptyFile() {
        Drive drive = on("twin of an empty file", 8);
        drive.append(0, 1, 0).twin(0, 1, 0).file(1, 0, 0, 0, 1, 0, 0, 0, 0).count(4, 2);
        drive.tape(70, 0).append(2, 1, 70).twin(0, 2, 0).file(2, 0, 0, 0, 1, 0, 0, 0, 0).count(0, 0).count(4, 3);
    }

    /** The same sentence where file to had other pages: they are in its row no more. */
    private void twinOverALongerFile() {
        Drive drive = on("twin over a longer file", 8);
        drive.tape(64, 0).append(0, 1, 64).tape(65, 100).append(1, 3, 195).count(0, 5).twin(0, 1, 64).count(0, 1);
        drive.byteAt(1, false, 63, 63).byteAtThrows(1, false, 64).tape(65, 100).append(1, 3, 259).sync(1, 5);
        drive.twin(0, 1, 64).count(0, 5).byteAt(1, true, 258, 164).sync(1, 0).count(0, 1);
    }

    /** The same sentence where both rows have pages in common already. */
    private void twinOverItsOwnTwin() {
        Drive drive = on("twin over its twin", 8);
        drive.tape(70, 0).append(0, 1, 70).twin(0, 1, 70).twin(0, 1, 70).twin(1, 0, 70).count(0, 2).count(4, 2);
        drive.tape(1, 9).append(1, 1, 71).count(0, 3).twin(1, 0, 71).count(0, 2).byteAt(0, false, 70, 9);
        drive.fileIs(0, 7, 2).remove(1, true).fileIs(0, 7, 0).tape(1, 8).append(0, 1, 72).count(2, 1);
    }

    /** Promise 6: "(its LOW is 0": that of file to, not that of file from. */
    private void twinSetsLow() {
        Drive drive = on("twin sets LOW", 8);
        drive.tape(30, 0).append(0, 1, 30).sync(0, 1).tape(20, 0).append(1, 1, 20).sync(1, 1);
        drive.twin(0, 1, 30).fileIs(1, 2, 0).fileIs(0, 2, 30).crash(1, 6, 5).file(1, 5, 5, 5, 1, 1, 1, 1, 1);
    }

    /** Promise 6: "also when both are one". */
    private void twinOfItself() {
        Drive drive = on("twin of itself", 8);
        drive.tape(70, 0).append(0, 1, 70).sync(0, 2).fileIs(0, 2, 70).twin(0, 0, 70);
        drive.file(0, 70, 70, 0, 1, 1, 2, 2, 2).count(0, 2).count(4, 1).byteAt(0, false, 69, 69);
        drive.crash(0, 3, 2).file(0, 2, 2, 2, 1, 1, 1, 1, 1).count(0, 1);
        // Its pages are no more shared than before.
        drive.append(1, 1, 0).tape(5, 0).append(1, 1, 5).twin(1, 1, 5).fileIs(1, 7, 0);
        drive.tape(1, 0).append(1, 1, 6).count(2, 0).remove(1, true).count(0, 1);
    }

    /** Promise 6: "NOW of file to becomes what NOW of file from is": neither SYNCED is touched or taken. */
    private void twinLeavesSynced() {
        Drive drive = on("twin leaves SYNCED", 8);
        drive.tape(30, 0).append(0, 1, 30).sync(0, 1).tape(20, 50);
        drive.append(0, 1, 50).tape(9, 90).append(1, 1, 9).sync(1, 1);
        drive.twin(0, 1, 50).fileIs(1, 1, 9).byteAt(1, true, 0, 90).fileIs(0, 1, 30).byteAt(1, false, 49, 69);
        drive.crash(1, 0, 9).byteAt(1, false, 0, 90).twin(0, 2, 50).file(2, 50, 0, 0, 1, 0, 1, 0, 1).crash(2, 0, 0);
        drive.fileIs(2, 3, 0);
    }

    /** Promise 6: "IndexOutOfBoundsException, when there is no such number". */
    private void twinOfNoNumber() {
        Drive drive = on("twin of no number", 8);
        drive.tape(9, 0).append(0, 1, 9).sync(0, 1);
        String before = drive.state(0, 15);
        for (int file : NO_NUMBERS) {
            drive.twinThrows(file, 0, INDEX).twinThrows(0, file, INDEX).twinThrows(file, file, INDEX);
        }
        drive.unchanged(before, 0, 15);
    }

    /** Promise 6: "NoSuchElementException, when the file from is not there." */
    private void twinOfAFileNotThere() {
        Drive drive = on("twin of what is not there", 8);
        drive.tape(9, 0).append(0, 1, 9).sync(0, 1).tape(8, 0).append(1, 1, 8).sync(1, 1).remove(1, true);
        String before = drive.state(0, 1, 2);
        drive.twinThrows(1, 0, NO_FILE).twinThrows(2, 0, NO_FILE).twinThrows(2, 2, NO_FILE).twinThrows(1, 1, NO_FILE);
        drive.unchanged(before, 0, 1, 2).twin(0, 2, 9);
    }

    /** Promise 6 where both exceptions would be due: the first in the document comes. */
    private void twinWithSeveralFaults() {
        on("twin, several faults", 8).twinThrows(3, 16, INDEX).twinThrows(3, -1, INDEX).twinThrows(-1, 3, INDEX);
    }
}
