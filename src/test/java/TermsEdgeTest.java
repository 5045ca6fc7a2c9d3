import java.util.NoSuchElementException;

/** The edges that the document's head and its section 'Terms' name, each sentence in a test of its own. */
public final class TermsEdgeTest {
    private static final Class<IndexOutOfBoundsException> INDEX = IndexOutOfBoundsException.class;
    private static final Class<UnsupportedOperationException> FULL = UnsupportedOperationException.class;

    private final Check check = new Check("TermsEdgeTest");

    public static void main(String[] args) {
        TermsEdgeTest test = new TermsEdgeTest();
        test.lastPromisedCall();
        test.fileNumbers();
        test.atFirstNoneIsThere();
        test.asManyPagesAsTheSizeNeeds();
        test.byteOfPage();
        test.notThereHasSizeZero();
        test.pageInEveryRow();
        test.usedAtMost();
        test.newPageWhereTheRowHasNone();
        test.lastPageInAnotherRow();
        test.lastPageInNoOtherRow();
        test.fullLastPageInAnotherRow();
        test.noLastPage();
        test.onlyTheLastPageIsCopied();
        test.cutKeepsTheFirstPages();
        test.asManyAsAreUnused();
        test.oneMoreThanAreUnused();
        test.copyNeedsAPage();
        test.fullDoesNothing();
        test.mostPagesInARow();
        test.lowWhenTheyBecameTheSame();
        test.lowIsTheLeast();
        test.lowOfWhatWasNeverSynced();
        test.tapeAtFirst();
        test.none();
        test.check.end();
    }

    private Drive on(String name, int pages) {
        return new Drive(check, name, pages);
    }

    /** "An object is used for at most 512 calls after it has been made". */
    private void lastPromisedCall() {
        Drive drive = on("512 calls", 4);
        for (int i = 1; i <= 255; i++) {
            drive.feed(i, 1, 1).append(0, 1, i);
        }
        drive.count(0, 4).byteAt(0, false, 254, 255).calls(512);
    }

    /** "FILES have numbers 0 .. 15." */
    private void fileNumbers() {
        for (int file = 0; file <= 15; file++) {
            Drive drive = on("file number " + file, 8);
            drive.tape(3, file).append(file, 1, 3).sync(file, 1).twin(file, file, 3).cut(file, 2, 3);
            drive.crash(file, 0, 3).fileIs(file, 1, 3).byteAt(file, false, 2, file + 2).remove(file, true);
        }
        for (int file : new int[] {-1, 16, Integer.MIN_VALUE, Integer.MAX_VALUE}) {
            Drive drive = on("no file number " + file, 8);
            drive.append(0, 1, 0).tape(3, 0);
            drive.appendThrows(file, 1, INDEX).cutThrows(file, 0, INDEX).removeThrows(file);
            drive.twinThrows(file, 0, INDEX).twinThrows(0, file, INDEX).syncThrows(file).crashThrows(file, 0, INDEX);
            drive.fileThrows(file, 0).byteAtThrows(file, false, 0).byteAtThrows(file, true, 0);
            drive.count(4, 1).count(3, 3);
        }
    }

    /** "A content is there or not (at first none is)". */
    private void atFirstNoneIsThere() {
        Drive drive = on("at first", 8);
        for (int file = 0; file <= 15; file++) {
            drive.fileIs(file, 3, 0).fileIs(file, 4, 0).cutThrows(file, 0, NoSuchElementException.class);
        }
        drive.count(4, 0).count(0, 0);
    }

    /** "has a size in bytes, and a row of PAGES of 64 bytes, as many as the size needs". */
    private void asManyPagesAsTheSizeNeeds() {
        int[][] sizeAndPages = {{0, 0}, {1, 1}, {63, 1}, {64, 1}, {65, 2}, {127, 2}, {128, 2}, {129, 3},
            {192, 3}, {193, 4}};
        for (int[] pair : sizeAndPages) {
            int size = pair[0];
            int pages = pair[1];
            Drive drive = on("size " + size, 8);
            drive.tape(size, 0).append(1, 1, size).file(1, size, 0, 0, 1, 0, pages, 0, 0).count(0, pages);
            drive.sync(1, pages).file(1, size, size, size, 1, 1, pages, pages, pages).count(0, pages);
        }
    }

    /** "byte i is byte i mod 64 of page i / 64 of its row." */
    private void byteOfPage() {
        Drive drive = on("byte of page", 8);
        drive.tape(130, 100).append(0, 1, 130);
        for (int i : new int[] {0, 1, 62, 63, 64, 65, 127, 128, 129}) {
            drive.byteAt(0, false, i, (100 + i) % 256);
        }
        drive.byteAtThrows(0, false, 130);
        // The two rows part in the page that was written, and in no byte of the others.
        drive.sync(0, 3).cut(0, 64, 130).tape(64, 7).append(0, 1, 128);
        drive.byteAt(0, false, 63, 163).byteAt(0, false, 64, 7).byteAt(0, false, 127, 70);
        drive.byteAt(0, true, 63, 163).byteAt(0, true, 64, 164).byteAt(0, true, 127, 227).byteAt(0, true, 128, 228);
    }

    /** "A file that is not there has size 0." */
    private void notThereHasSizeZero() {
        Drive drive = on("size of what is not there", 8);
        drive.tape(70, 0).append(0, 1, 70).fileIs(0, 1, 0).sync(0, 2).remove(0, true);
        drive.file(0, 0, 70, 0, 0, 1, 0, 2, 0).crash(0, 1, 0).file(0, 0, 0, 0, 0, 0, 0, 0, 0);
        drive.tape(5, 0).append(0, 1, 5).crash(0, 0, 0).file(0, 0, 0, 0, 0, 0, 0, 0, 0);
    }

    /** "A page may be in several rows (of any files)." */
    private void pageInEveryRow() {
        Drive drive = on("a page in 32 rows", 4);
        drive.tape(64, 9).append(0, 1, 64).fileIs(0, 7, 0);
        for (int file = 1; file <= 15; file++) {
            drive.twin(0, file, 64);
        }
        for (int file = 0; file <= 15; file++) {
            drive.sync(file, 1).fileIs(file, 7, 1);
        }
        drive.count(0, 1).count(2, 0).count(4, 16);
        for (int file = 0; file <= 14; file++) {
            drive.remove(file, true).sync(file, 0).count(0, 1);
        }
        drive.fileIs(15, 7, 1).remove(15, true).count(0, 1).byteAt(15, true, 63, 72).sync(15, 0).count(0, 0);
    }

    /** "Pages that are in any row are USED; at most as many as the constructor says." */
    private void usedAtMost() {
        for (int pages : new int[] {4, 5, 9}) {
            Drive drive = on("used of " + pages, pages);
            for (int k = 1; k <= pages; k++) {
                drive.tape(1, k).append(k, 1, 1).count(0, k);
            }
            drive.tape(1, 0).appendThrows(0, 1, FULL).count(0, pages).count(1, pages);
            drive.sync(1, 1).remove(1, true).count(0, pages).tape(1, 0).appendThrows(0, 1, FULL);
            drive.sync(1, 0).count(0, pages - 1).tape(1, 0).append(0, 1, 1).count(0, pages);
        }
    }

    /** "they come behind its last one, with a new page where the row has none". */
    private void newPageWhereTheRowHasNone() {
        Drive drive = on("new page", 8);
        drive.append(0, 1, 0).count(0, 0).tape(1, 1).append(0, 1, 1).count(0, 1);
        drive.tape(62, 2).append(0, 1, 63).count(0, 1).tape(1, 3).append(0, 1, 64).count(0, 1);
        drive.tape(1, 4).append(0, 1, 65).count(0, 2).tape(64, 5).append(0, 1, 129).count(0, 3);
        drive.byteAt(0, false, 0, 1).byteAt(0, false, 1, 2).byteAt(0, false, 62, 63).byteAt(0, false, 63, 3);
        drive.byteAt(0, false, 64, 4).byteAt(0, false, 65, 5).byteAt(0, false, 128, 68).count(2, 0);
    }

    /**
     * "when the last page of the row, not being full, is in another row, too, a new page with the same
     * bytes comes in its place before."
     */
    private void lastPageInAnotherRow() {
        for (int size : new int[] {1, 63, 65, 127}) {
            int pages = (size + 63) / 64;
            Drive synced = on("in its own synced row, " + size, 8);
            synced.tape(size, 0).append(0, 1, size).sync(0, pages).tape(1, 200).append(0, 1, size + 1);
            synced.count(2, 1).count(0, pages + 1).fileIs(0, 7, pages - 1);
            synced.byteAt(0, false, size - 1, size - 1).byteAt(0, false, size, 200).byteAtThrows(0, true, size);
            Drive twin = on("in its twin's row, " + size, 8);
            twin.tape(size, 0).append(0, 1, size).twin(0, 1, size).tape(1, 200).append(0, 1, size + 1);
            twin.count(2, 1).tape(1, 201).append(1, 1, size + 1).count(2, 1).count(0, pages + 1);
            twin.byteAt(0, false, size, 200).byteAt(1, false, size, 201).byteAt(1, false, size - 1, size - 1);
            Drive other = on("in its twin's synced row, " + size, 8);
            other.tape(size, 0).append(0, 1, size).twin(0, 1, size).sync(1, pages).remove(1, true);
            other.tape(1, 200).append(0, 1, size + 1).count(2, 1).count(0, pages + 1);
        }
        Drive drive = on("not full any more", 8);
        drive.tape(64, 0).append(0, 1, 64).sync(0, 1).cut(0, 63, 64).tape(1, 200).append(0, 1, 64).count(2, 1);
        drive.byteAt(0, false, 62, 62).byteAt(0, false, 63, 200).byteAt(0, true, 63, 63);
    }

    /** The same sentence's "in another row, too": a page that has come back to one row is written where it is. */
    private void lastPageInNoOtherRow() {
        Drive drive = on("in no other row", 8);
        drive.tape(10, 0).append(0, 1, 10).tape(1, 0).append(0, 1, 11).count(2, 0);
        drive.twin(0, 1, 11).remove(1, true).tape(1, 0).append(0, 1, 12).count(2, 0).count(0, 1);
        drive.sync(0, 1).remove(0, true).crash(0, 0, 12).twin(0, 1, 12).remove(0, true).sync(0, 0);
        drive.tape(1, 0).append(1, 1, 13).count(2, 0).count(0, 1);
    }

    /** The same sentence's "not being full". */
    private void fullLastPageInAnotherRow() {
        for (int size : new int[] {64, 128}) {
            Drive drive = on("full last page, " + size, 8);
            int pages = size / 64;
            drive.tape(size, 0).append(0, 1, size).sync(0, pages).twin(0, 1, size).tape(1, 200).append(0, 1, size + 1);
            drive.count(2, 0).count(0, pages + 1).fileIs(0, 7, pages).byteAt(0, false, size, 200);
        }
    }

    /** The same sentence where the row has no page at all. */
    private void noLastPage() {
        Drive drive = on("no last page", 8);
        drive.tape(10, 0).append(0, 1, 10).sync(0, 1).cut(0, 0, 10);
        drive.tape(10, 50).append(0, 1, 10).count(2, 0).count(0, 2);
        drive.remove(0, true).tape(10, 60).append(0, 1, 10).count(2, 0).byteAt(0, false, 0, 60).byteAt(0, true, 0, 0);
    }

    /** The same sentence's "the last page": the pages before stay shared, and the new ones are not copies. */
    private void onlyTheLastPageIsCopied() {
        Drive drive = on("only the last page", 10);
        drive.tape(100, 0).append(0, 2, 200).sync(0, 4).tape(100, 50).append(0, 2, 400).count(2, 1);
        drive.count(0, 8).file(0, 400, 200, 200, 1, 1, 7, 4, 3).byteAt(0, false, 199, 99).byteAt(0, false, 200, 50);
        drive.sync(0, 4).count(0, 7);
    }

    /** "TO CUT NOW to a size: the row has the first pages that are needed." */
    private void cutKeepsTheFirstPages() {
        int[][] sizeAndPages = {{193, 4}, {192, 3}, {129, 3}, {128, 2}, {127, 2}, {65, 2}, {64, 1}, {63, 1},
            {1, 1}, {0, 0}};
        Drive drive = on("cut", 8);
        drive.tape(200, 0).append(0, 1, 200);
        int before = 200;
        for (int[] pair : sizeAndPages) {
            drive.cut(0, pair[0], before).fileIs(0, 5, pair[1]).count(0, pair[1]).fileIs(0, 0, pair[0]);
            before = pair[0];
            if (before > 0) {
                drive.byteAt(0, false, 0, 0).byteAt(0, false, before - 1, before - 1);
            }
            drive.byteAtThrows(0, false, before);
        }
    }

    /** "When more new pages are needed than there are unused ones": as many are not more. */
    private void asManyAsAreUnused() {
        on("all pages at once", 4).tape(64, 0).append(0, 4, 256).count(0, 4);
        on("the last page", 4).tape(64, 0).append(0, 3, 192).tape(1, 0).append(1, 1, 1).count(0, 4);
        on("none unused, none needed", 4).tape(60, 0).append(0, 4, 240).tape(16, 0).append(0, 1, 256).count(0, 4);
    }

    /** The same sentence with one page more. */
    private void oneMoreThanAreUnused() {
        on("one byte more than all", 4).tape(1, 0).append(1, 1, 1).tape(64, 0).append(0, 3, 192).tape(64, 0)
                .appendThrows(1, 1, FULL).tape(63, 0).append(1, 1, 64).tape(1, 0).appendThrows(1, 1, FULL);
        on("five of four", 4).tape(64, 0).appendThrows(0, 5, FULL).count(0, 0).count(4, 0);
        on("257 bytes of 256", 4).tape(64, 0).append(0, 4, 256).tape(1, 0).appendThrows(0, 1, FULL).fileIs(0, 0, 256);
    }

    /** The same sentence where a new page is needed for the copy, with or without others. */
    private void copyNeedsAPage() {
        Drive drive = on("no page for the copy", 4);
        drive.tape(63, 0).append(0, 4, 252).sync(0, 4).tape(1, 0).appendThrows(0, 1, FULL).count(2, 0);
        drive.cut(0, 192, 252).tape(1, 0).appendThrows(0, 1, FULL).cut(0, 191, 192).tape(1, 0).appendThrows(0, 1, FULL);
        drive.sync(0, 0).count(0, 3).tape(1, 99).append(0, 1, 192).count(2, 1).count(0, 4).byteAt(0, false, 191, 99);
        drive = on("a page for the copy alone", 4);
        drive.tape(60, 0).append(0, 3, 180).sync(0, 3).tape(13, 0).appendThrows(0, 1, FULL).count(2, 0).count(0, 3);
        drive.tape(12, 70).append(0, 1, 192).count(2, 1).count(0, 4);
        drive.byteAt(0, false, 180, 70).byteAt(0, false, 179, 59);
    }

    /** The same sentence's "nothing is done: FULL." */
    private void fullDoesNothing() {
        Drive drive = on("nothing is done", 4);
        drive.tape(63, 0).append(0, 1, 63).sync(0, 1).cut(0, 50, 63).tape(40, 100).append(1, 1, 40);
        drive.tape(60, 90).append(2, 2, 120).count(0, 4);
        String before = drive.state(0, 1, 3);
        drive.tape(1, 0).appendThrows(0, 1, FULL).tape(25, 0);
        drive.appendThrows(1, 1, FULL).tape(1, 0).appendThrows(3, 1, FULL);
        drive.unchanged(before, 0, 1, 3);
    }

    /** "At most 400 pages are in a row." */
    private void mostPagesInARow() {
        Drive drive = on("400 pages", 1024);
        drive.tape(1600, 0).append(0, 16, 25600).file(0, 25600, 0, 0, 1, 0, 400, 0, 0).byteAt(0, false, 25599, 63);
        drive.tape(1, 0).appendThrows(0, 1, FULL).fileIs(0, 0, 25600).count(0, 400).twin(0, 1, 25600).fileIs(1, 7, 400);
        drive.tape(1, 0).appendThrows(1, 1, FULL).sync(0, 400).crash(1, 0, 0).cut(0, 25536, 25600).fileIs(0, 5, 399);
        drive.tape(65, 0).appendThrows(0, 1, FULL).tape(64, 1).append(0, 1, 25600).fileIs(0, 5, 400).count(0, 401);
        on("401 pages at once", 1024).tape(1604, 0).appendThrows(0, 16, FULL).count(0, 0).count(4, 0);
        on("400 pages and a byte", 1024).tape(8, 0).append(0, 1, 8)
                .tape(1600, 0).appendThrows(0, 16, FULL).fileIs(0, 0, 8);
        on("400 pages, all there are", 400).tape(1600, 0).append(0, 16, 25600).tape(1, 0).appendThrows(0, 1, FULL);
        on("400 pages of 399", 399).tape(1600, 0).appendThrows(0, 16, FULL).count(0, 0);
    }

    /**
     * "THE LOW of a file is the least size that NOW had since NOW and SYNCED were the same last (when they
     * became so its size)."
     */
    private void lowWhenTheyBecameTheSame() {
        Drive drive = on("low when the same", 20);
        drive.tape(70, 0).append(0, 1, 70).fileIs(0, 2, 0).sync(0, 2).fileIs(0, 2, 70);
        drive.cut(0, 30, 70).fileIs(0, 2, 30).sync(0, 0).fileIs(0, 2, 30);
        drive.tape(10, 0).append(0, 1, 40).fileIs(0, 2, 30).sync(0, 1).fileIs(0, 2, 40);
        drive.cut(0, 5, 40).fileIs(0, 2, 5).crash(0, 0, 40).fileIs(0, 2, 40);
        drive.cut(0, 5, 40).tape(10, 0).append(0, 1, 15).crash(0, 4, 8).fileIs(0, 2, 8);
        drive.remove(0, true).fileIs(0, 2, 0).crash(0, 0, 8).fileIs(0, 2, 8);
        drive.twin(0, 0, 8).fileIs(0, 2, 0).sync(0, 0).fileIs(0, 2, 8);
    }

    /** The same sentence's "the least size": neither the last one, nor one from before. */
    private void lowIsTheLeast() {
        Drive drive = on("the least", 20);
        drive.tape(50, 0).append(0, 1, 50).sync(0, 1).cut(0, 50, 50).fileIs(0, 2, 50);
        drive.tape(10, 0).append(0, 1, 60).fileIs(0, 2, 50).cut(0, 55, 60);
        drive.fileIs(0, 2, 50).cut(0, 50, 55).fileIs(0, 2, 50);
        drive.cut(0, 49, 50).fileIs(0, 2, 49).tape(10, 0).append(0, 1, 59);
        drive.fileIs(0, 2, 49).cut(0, 52, 59).fileIs(0, 2, 49);
        drive.cut(0, 0, 52).fileIs(0, 2, 0).tape(10, 0).append(0, 1, 10).fileIs(0, 2, 0).sync(0, 1).fileIs(0, 2, 10);
    }

    /** The same sentence for a file whose contents were the same last when neither was there. */
    private void lowOfWhatWasNeverSynced() {
        Drive drive = on("never synced", 20);
        drive.fileIs(0, 2, 0).append(0, 1, 0).fileIs(0, 2, 0).tape(9, 0).append(0, 1, 9).fileIs(0, 2, 0);
        drive.cut(0, 4, 9).fileIs(0, 2, 0).cut(0, 4, 4).fileIs(0, 2, 0);
    }

    /** "THE TAPE is a row of at most 4096 bytes, empty at first." */
    private void tapeAtFirst() {
        on("tape at first", 8).count(3, 0).append(0, 16, 0).count(3, 0);
        Drive drive = on("most on the tape", 8);
        for (int i = 1; i <= 511; i++) {
            drive.feed(0, 8, 8 * i);
        }
        drive.feed(-1, 8, 4096).calls(512);
    }

    /** "NONE = -1: Nothing there." */
    private void none() {
        check.compare("NONE", "-1", String.valueOf(PageDrive.NONE));
    }
}
