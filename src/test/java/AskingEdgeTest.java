/** The edges that promises 10 to 12 name, each sentence in a test of its own. */
public final class AskingEdgeTest {
    private static final Class<UnsupportedOperationException> FULL = UnsupportedOperationException.class;
    private static final int[] NO_NUMBERS = {-1, 16, 32, Integer.MIN_VALUE, Integer.MAX_VALUE};

    private final Check check = new Check("AskingEdgeTest");

    public static void main(String[] args) {
        AskingEdgeTest test = new AskingEdgeTest();
        test.sizes();
        test.low();
        test.whetherItIsThere();
        test.pagesOfItsRows();
        test.pagesInAnotherRow();
        test.noSuchFile();
        test.noSuchWhat();
        test.valuesOfBytes();
        test.firstAndLastByte();
        test.noSuchByte();
        test.bytesOfWhatIsNotThere();
        test.bytesOfNoFile();
        test.pagesUsed();
        test.pagesThatMayBeUsed();
        test.pagesCopied();
        test.bytesOnTheTape();
        test.filesThere();
        test.noneForAnotherWhat();
        test.askingChangesNothing();
        test.check.end();
    }

    private Drive on(String name, int pages) {
        return new Drive(check, name, pages);
    }

    /** Promise 10: "its size NOW (0) and SYNCED (1)". */
    private void sizes() {
        Drive drive = on("sizes", 8);
        drive.fileIs(0, 0, 0).fileIs(0, 1, 0).tape(65, 0).append(0, 1, 65).fileIs(0, 0, 65).fileIs(0, 1, 0);
        drive.sync(0, 2).fileIs(0, 1, 65).cut(0, 0, 65).fileIs(0, 0, 0).fileIs(0, 1, 65);
    }

    /** Promise 10: "its LOW (2)". */
    private void low() {
        Drive drive = on("low", 8);
        drive.fileIs(0, 2, 0).tape(65, 0).append(0, 1, 65).fileIs(0, 2, 0).sync(0, 2).fileIs(0, 2, 65);
        drive.cut(0, 64, 65).fileIs(0, 2, 64).cut(0, 0, 64).fileIs(0, 2, 0);
    }

    /** Promise 10: "whether it is there NOW (3) and SYNCED (4): 1, else 0". */
    private void whetherItIsThere() {
        Drive drive = on("there", 8);
        drive.fileIs(0, 3, 0).fileIs(0, 4, 0).append(0, 1, 0).fileIs(0, 3, 1).fileIs(0, 4, 0);
        drive.sync(0, 0).fileIs(0, 4, 1).remove(0, true).fileIs(0, 3, 0).fileIs(0, 4, 1).sync(0, 0).fileIs(0, 4, 0);
    }

    /** Promise 10: "the pages of its rows NOW (5) and SYNCED (6)". */
    private void pagesOfItsRows() {
        Drive drive = on("pages", 8);
        drive.tape(64, 0).append(0, 1, 64).fileIs(0, 5, 1).fileIs(0, 6, 0).sync(0, 1).tape(1, 0).append(0, 1, 65);
        drive.fileIs(0, 5, 2).fileIs(0, 6, 1).cut(0, 0, 65).fileIs(0, 5, 0).fileIs(0, 6, 1).sync(0, 0).fileIs(0, 6, 0);
    }

    /** Promise 10: "how many of those of NOW are in another row, too (7)". */
    private void pagesInAnotherRow() {
        Drive drive = on("in another row", 20);
        drive.tape(64, 0).append(0, 3, 192).fileIs(0, 7, 0).sync(0, 3).fileIs(0, 7, 3);
        drive.tape(1, 0).append(0, 1, 193).fileIs(0, 7, 3).cut(0, 128, 193).fileIs(0, 7, 2);
        // The third page is in SYNCED's row alone now, and no page of NOW.
        drive.sync(0, 0).twin(0, 1, 128).remove(0, true).fileIs(0, 7, 0).fileIs(1, 7, 2).sync(0, 0).fileIs(1, 7, 0);
        drive.twin(1, 1, 128).fileIs(1, 7, 0).twin(1, 2, 128).fileIs(1, 7, 2).cut(2, 64, 128).fileIs(1, 7, 1);
        drive.fileIs(2, 7, 1).cut(2, 63, 64).fileIs(1, 7, 1).tape(1, 0);
        drive.append(2, 1, 64).fileIs(1, 7, 0).fileIs(2, 7, 0);
    }

    /** Promise 10: "IndexOutOfBoundsException, when there is no such file". */
    private void noSuchFile() {
        Drive drive = on("file of no number", 8);
        for (int file : NO_NUMBERS) {
            for (int what = -1; what <= 8; what++) {
                drive.fileThrows(file, what);
            }
        }
    }

    /** Promise 10: "or what." */
    private void noSuchWhat() {
        Drive drive = on("file, no what", 8);
        drive.append(0, 1, 0);
        for (int what : new int[] {-1, 8, 9, 16, 256, Integer.MIN_VALUE, Integer.MAX_VALUE}) {
            drive.fileThrows(0, what).fileThrows(15, what);
        }
        drive.fileIs(15, 0, 0).fileIs(15, 7, 0);
    }

    /** Promise 11: "Byte i (its value is 0 .. 255) of a file, NOW or SYNCED." */
    private void valuesOfBytes() {
        Drive drive = on("values", 8);
        drive.tape(256, 0).append(0, 1, 256);
        for (int i = 0; i < 256; i++) {
            drive.byteAt(0, false, i, i);
        }
        drive.sync(0, 4).cut(0, 0, 256).tape(2, 200).append(0, 1, 2).byteAt(0, false, 0, 200).byteAt(0, false, 1, 201);
        for (int i : new int[] {0, 1, 127, 128, 129, 254, 255}) {
            drive.byteAt(0, true, i, i);
        }
    }

    /** Promise 11 at both ends of files that end before, at and behind a page's end. */
    private void firstAndLastByte() {
        for (int size : new int[] {1, 63, 64, 65, 128, 129}) {
            Drive drive = on("ends of " + size, 8);
            drive.tape(size, 11).append(0, 1, size).sync(0, (size + 63) / 64);
            drive.byteAt(0, false, 0, 11).byteAt(0, false, size - 1, size + 10).byteAtThrows(0, false, size);
            drive.byteAt(0, true, 0, 11).byteAt(0, true, size - 1, size + 10).byteAtThrows(0, true, size);
        }
    }

    /** Promise 11: "IndexOutOfBoundsException, when there is none": by its index. */
    private void noSuchByte() {
        Drive drive = on("no such byte", 8);
        drive.tape(65, 0).append(0, 1, 65).sync(0, 2).cut(0, 10, 65);
        for (int i : new int[] {-1, -64, 65, 66, 127, 128, 25600, Integer.MIN_VALUE, Integer.MAX_VALUE}) {
            drive.byteAtThrows(0, false, i).byteAtThrows(0, true, i);
        }
        // The page has them yet, the file has not.
        drive.byteAtThrows(0, false, 10).byteAtThrows(0, false, 63).byteAt(0, true, 10, 10).byteAt(0, true, 64, 64);
    }

    /** The same sentence for a content that is not there, or is empty. */
    private void bytesOfWhatIsNotThere() {
        Drive drive = on("bytes of nothing", 8);
        drive.byteAtThrows(0, false, 0).byteAtThrows(0, true, 0).append(0, 1, 0).sync(0, 0).byteAtThrows(0, false, 0);
        drive.byteAtThrows(0, true, 0).tape(1, 5).append(0, 1, 1).byteAt(0, false, 0, 5).byteAtThrows(0, true, 0);
        drive.sync(0, 1).remove(0, true).byteAtThrows(0, false, 0).byteAt(0, true, 0, 5);
    }

    /** The same sentence for a file number that there is not. */
    private void bytesOfNoFile() {
        Drive drive = on("bytes of no file", 8);
        drive.tape(1, 5).append(0, 1, 1).tape(1, 5).append(15, 1, 1);
        for (int file : NO_NUMBERS) {
            drive.byteAtThrows(file, false, 0).byteAtThrows(file, true, 0).byteAtThrows(file, false, -1);
        }
    }

    /** Promise 12: "How many pages are used (0)": from none to all. */
    private void pagesUsed() {
        Drive drive = on("used", 4);
        drive.count(0, 0).append(0, 1, 0).count(0, 0).tape(1, 0).append(0, 1, 1).count(0, 1).sync(0, 1).count(0, 1);
        drive.twin(0, 1, 1).count(0, 1).tape(64, 0).append(1, 2, 129).count(0, 4).tape(64, 0).appendThrows(1, 1, FULL);
        drive.count(0, 4).remove(1, true).count(0, 1).remove(0, true).count(0, 1).crash(0, 1, 0).count(0, 0);
    }

    /** Promise 12: "how many may be (1)": the same at all times. */
    private void pagesThatMayBeUsed() {
        on("may be", 4).count(1, 4).tape(64, 0).append(0, 4, 256).count(1, 4)
                .tape(1, 0).appendThrows(0, 1, FULL).count(1, 4);
        on("may be", -7).count(1, 4);
        on("may be", 9999).count(1, 1024);
    }

    /** Promise 12: "how many were copied since the beginning (2)": neither new nor refused ones, and never fewer. */
    private void pagesCopied() {
        Drive drive = on("copied", 4);
        drive.count(2, 0).tape(10, 0).append(0, 1, 10).count(2, 0).twin(0, 1, 10).sync(0, 1).count(2, 0);
        drive.tape(1, 0).append(0, 1, 11).count(2, 1).tape(1, 0).append(1, 1, 11).count(2, 2).count(0, 3);
        drive.sync(1, 1).tape(64, 0).appendThrows(1, 2, FULL).count(2, 2).remove(0, true).remove(1, true).count(2, 2);
        drive.crash(0, 0, 10).crash(1, 0, 11).count(2, 2);
    }

    /** Promise 12: "how many bytes are on the tape (3)". */
    private void bytesOnTheTape() {
        Drive drive = on("on the tape", 8);
        drive.count(3, 0).feed(0, 1, 1).count(3, 1).feed(0, 8, 9).count(3, 9).sync(0, 0).crashAll(3, 0).count(3, 9);
        drive.remove(0, false).crash(0, 0, 0).count(3, 9).append(0, 3, 27).count(3, 0);
    }

    /** Promise 12: "how many files are there NOW (4)": from none to all. */
    private void filesThere() {
        Drive drive = on("files there", 8);
        drive.count(4, 0);
        for (int file = 0; file <= 15; file++) {
            drive.append(file, 1, 0).count(4, file + 1);
        }
        drive.append(3, 1, 0).count(4, 16).sync(5, 0).remove(5, true).count(4, 15).remove(5, false).count(4, 15);
        drive.twin(0, 5, 0).count(4, 16).crash(0, 0, 0).count(4, 15).crash(5, 0, 0).count(4, 15);
    }

    /** Promise 12: "NONE for another what." */
    private void noneForAnotherWhat() {
        Drive drive = on("no such count", 8);
        for (int what : new int[] {-1, 5, 6, 16, Integer.MIN_VALUE, Integer.MAX_VALUE}) {
            drive.count(what, PageDrive.NONE);
        }
    }

    /** "Nothing is promised beyond the answers and state changes described above": asking changes nothing. */
    private void askingChangesNothing() {
        Drive drive = on("asking", 8);
        drive.tape(30, 0).append(0, 1, 30).sync(0, 1).tape(5, 0).append(0, 1, 35).tape(3, 0);
        String before = drive.state(0, 1);
        drive.count(9, -1).fileThrows(0, 8).byteAtThrows(0, false, 35).unchanged(before, 0, 1).unchanged(before, 0, 1);
    }
}
