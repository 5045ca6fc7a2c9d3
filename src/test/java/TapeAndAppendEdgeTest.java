/** The edges that promises 1 to 3 name, each sentence in a test of its own. */
public final class TapeAndAppendEdgeTest {
    private static final Class<IndexOutOfBoundsException> INDEX = IndexOutOfBoundsException.class;
    private static final Class<UnsupportedOperationException> FULL = UnsupportedOperationException.class;
    private static final Class<IllegalArgumentException> ARGUMENT = IllegalArgumentException.class;
    private static final Class<IllegalStateException> STATE = IllegalStateException.class;

    private final Check check = new Check("TapeAndAppendEdgeTest");

    public static void main(String[] args) {
        TapeAndAppendEdgeTest test = new TapeAndAppendEdgeTest();
        test.fewestPages();
        test.mostPages();
        test.nLowestBytes();
        test.bytesOfAnySign();
        test.howManyItHas();
        test.tooFewOrManyFed();
        test.tapeWouldBeTooLong();
        test.bothFaultsOfFeed();
        test.timesOver();
        test.madeIfNotThere();
        test.notMadeAnewIfThere();
        test.tapeIsEmptyThen();
        test.tapeIsEmptyWhenItDidNotFit();
        test.tapeStaysInTheFirstCase();
        test.noSuchFileNumber();
        test.noSuchTimes();
        test.full();
        test.rowTooLong();
        test.longestAppend();
        test.emptyTape();
        test.emptyTapeWithNoPageUnused();
        test.check.end();
    }

    private Drive on(String name, int pages) {
        return new Drive(check, name, pages);
    }

    /** Promise 1: "at least 4 .. others as the nearest of these". */
    private void fewestPages() {
        for (int pages : new int[] {4, 3, 2, 1, 0, -1, -1024, Integer.MIN_VALUE}) {
            Drive drive = on("new " + pages, pages);
            drive.count(1, 4).tape(64, 0).append(0, 4, 256).count(0, 4).tape(1, 0).appendThrows(1, 1, FULL);
        }
        on("new 5", 5).count(1, 5).tape(64, 0).append(0, 5, 320).tape(1, 0).appendThrows(1, 1, FULL);
    }

    /** Promise 1: "at most 1024; others as the nearest of these". (No 512 calls can use so many pages.) */
    private void mostPages() {
        for (int pages : new int[] {1023, 1024, 1025, 4096, Integer.MAX_VALUE}) {
            int most = Math.min(1024, pages);
            Drive drive = on("new " + pages, pages).beyondThePromisedCalls();
            drive.count(1, most).tape(1600, 0).append(0, 16, 25600).tape(1600, 0).append(1, 16, 25600).count(0, 800);
            drive.tape(892, 0).append(2, 16, 14272).count(0, 1023).tape(1, 0);
            if (most == 1024) {
                drive.append(3, 1, 1).tape(1, 0);
            }
            drive.appendThrows(4, 1, FULL).count(0, most);
        }
    }

    /** Promise 2: "The n lowest bytes of eight come behind the tape, the lowest first". */
    private void nLowestBytes() {
        for (int n = 1; n <= 8; n++) {
            Drive drive = on("the " + n + " lowest", 8);
            drive.feed(0x77, 1, 1).feed(0x8877665544332211L, n, 1 + n).append(0, 1, 1 + n).byteAt(0, false, 0, 0x77);
            for (int i = 1; i <= n; i++) {
                drive.byteAt(0, false, i, 0x11 * i);
            }
            drive.byteAtThrows(0, false, 1 + n);
        }
    }

    /** Promise 2 with bytes whose value as a Java byte is below 0, and 0. */
    private void bytesOfAnySign() {
        Drive drive = on("any sign", 8);
        drive.feed(Long.MIN_VALUE, 8, 8).feed(-1, 8, 16).feed(0, 8, 24).feed(0x807F, 2, 26).append(0, 1, 26);
        drive.byteAt(0, false, 0, 0).byteAt(0, false, 6, 0).byteAt(0, false, 7, 128);
        drive.byteAt(0, false, 8, 255).byteAt(0, false, 15, 255).byteAt(0, false, 16, 0).byteAt(0, false, 23, 0);
        drive.byteAt(0, false, 24, 127).byteAt(0, false, 25, 128);
    }

    /** Promise 2: "how many it has", counted anew behind an append. */
    private void howManyItHas() {
        Drive drive = on("how many", 8);
        drive.feed(1, 1, 1).feed(1, 8, 9).feed(1, 3, 12).count(3, 12).append(0, 1, 12).feed(1, 2, 2).count(3, 2);
        drive.append(0, 1, 14).byteAt(0, false, 12, 1).byteAt(0, false, 13, 0);
    }

    /** Promise 2: "IllegalArgumentException, when n is not 1 .. 8". */
    private void tooFewOrManyFed() {
        Drive drive = on("not 1 to 8", 8);
        drive.tape(5, 1);
        for (int n : new int[] {0, 9, -1, 16, 64, Integer.MIN_VALUE, Integer.MAX_VALUE}) {
            drive.feedThrows(-1, n, ARGUMENT).count(3, 5);
        }
        drive.feed(6, 1, 6).append(0, 1, 6).byteAt(0, false, 4, 5).byteAt(0, false, 5, 6);
    }

    /** Promise 2: "IllegalStateException, when there would be more than 4096." */
    private void tapeWouldBeTooLong() {
        Drive drive = on("more than 4096", 8).beyondThePromisedCalls();
        for (int i = 1; i <= 511; i++) {
            drive.feed(i, 8, 8 * i);
        }
        drive.feed(0, 7, 4095).feedThrows(0, 2, STATE).feedThrows(0, 8, STATE).count(3, 4095);
        drive.feed(0, 1, 4096).feedThrows(0, 1, STATE).feedThrows(0, 8, STATE).count(3, 4096);
        drive.appendThrows(0, 16, FULL).count(3, 0).feed(0, 8, 8);
    }

    /** Promise 2 where both exceptions would be due: the argument's comes first, as in the document. */
    private void bothFaultsOfFeed() {
        Drive drive = on("both faults", 8).beyondThePromisedCalls();
        for (int i = 1; i <= 512; i++) {
            drive.feed(i, 8, 8 * i);
        }
        drive.feedThrows(0, 9, ARGUMENT).feedThrows(0, Integer.MAX_VALUE, ARGUMENT).feedThrows(0, 0, ARGUMENT);
    }

    /** Promise 3: "Appends the tape, times times over (1 .. 16) .. its size". */
    private void timesOver() {
        for (int times = 1; times <= 16; times++) {
            Drive drive = on(times + " times", 8);
            drive.tape(5, 40).append(0, times, 5 * times);
            for (int i = 0; i < 5 * times; i++) {
                drive.byteAt(0, false, i, 40 + i % 5);
            }
            drive.byteAtThrows(0, false, 5 * times).tape(2, 90).append(0, times, 7 * times);
            drive.byteAt(0, false, 5 * times, 90).byteAt(0, false, 7 * times - 1, 91);
        }
    }

    /** Promise 3: "to a file, which is made if it is not there". */
    private void madeIfNotThere() {
        Drive drive = on("made", 8);
        drive.tape(3, 0).append(4, 1, 3).fileIs(4, 3, 1).fileIs(4, 4, 0).count(4, 1);
        drive.sync(4, 1).remove(4, true).fileIs(4, 3, 0).tape(2, 50).append(4, 1, 2).fileIs(4, 3, 1);
        drive.byteAt(4, false, 0, 50).byteAt(4, true, 0, 0).file(4, 2, 3, 0, 1, 1, 1, 1, 0);
    }

    /** Promise 3 for a file that is there, with or without bytes. */
    private void notMadeAnewIfThere() {
        Drive drive = on("there already", 8);
        drive.append(0, 1, 0).sync(0, 0).tape(3, 0).append(0, 1, 3).append(0, 1, 3).tape(1, 9).append(0, 1, 4);
        drive.byteAt(0, false, 0, 0).byteAt(0, false, 3, 9).count(4, 1).fileIs(0, 2, 0);
    }

    /** Promise 3: "the tape is empty then". */
    private void tapeIsEmptyThen() {
        Drive drive = on("empty then", 8);
        drive.tape(20, 0).count(3, 20).append(0, 2, 40).count(3, 0).append(0, 2, 40).append(1, 2, 0).count(3, 0);
    }

    /** Promise 3: "in any case but the first": FULL and too long empty it, too. */
    private void tapeIsEmptyWhenItDidNotFit() {
        Drive drive = on("lost when full", 4);
        drive.tape(64, 0).appendThrows(0, 5, FULL).count(3, 0).feed(7, 1, 1).append(0, 1, 1).byteAt(0, false, 0, 7);
        drive = on("lost when too long", 1024);
        drive.tape(1601, 0).appendThrows(0, 16, FULL).count(3, 0).feed(7, 1, 1).append(0, 1, 1).byteAt(0, false, 0, 7);
    }

    /** Promise 3: "in any case but the first": the IndexOutOfBoundsException. */
    private void tapeStaysInTheFirstCase() {
        Drive drive = on("not lost by a wrong number", 8);
        drive.tape(20, 5).appendThrows(16, 1, INDEX).count(3, 20).appendThrows(0, 17, INDEX).count(3, 20);
        drive.appendThrows(-1, 0, INDEX).count(3, 20).append(0, 1, 20).byteAt(0, false, 19, 24).count(3, 0);
    }

    /** Promise 3: "IndexOutOfBoundsException, when there is no such file number". */
    private void noSuchFileNumber() {
        Drive drive = on("append to no file", 8);
        drive.tape(3, 0);
        String before = drive.state(0, 15);
        for (int file : new int[] {-1, 16, 31, 256, Integer.MIN_VALUE, Integer.MAX_VALUE}) {
            drive.appendThrows(file, 1, INDEX).appendThrows(file, 16, INDEX).appendThrows(file, 0, INDEX);
        }
        drive.unchanged(before, 0, 15);
    }

    /** Promise 3: "or times is none of these". */
    private void noSuchTimes() {
        Drive drive = on("append no times", 8);
        drive.tape(3, 0).append(0, 1, 3).tape(3, 0);
        String before = drive.state(0, 1);
        for (int times : new int[] {0, 17, -1, 32, 256, Integer.MIN_VALUE, Integer.MAX_VALUE}) {
            drive.appendThrows(0, times, INDEX).appendThrows(1, times, INDEX);
        }
        drive.unchanged(before, 0, 1).append(0, 16, 51);
        // The number comes first even where the bytes would not fit.
        on("no times and no room", 4).tape(64, 0).append(0, 4, 256).tape(1, 0).appendThrows(0, 17, INDEX).count(3, 1);
    }

    /** Promise 3: "UnsupportedOperationException, when it is FULL". */
    private void full() {
        Drive drive = on("full", 4);
        drive.tape(64, 0).append(0, 3, 192).tape(65, 0).appendThrows(0, 1, FULL).tape(5, 0).appendThrows(0, 13, FULL);
        drive.count(0, 3).fileIs(0, 0, 192).tape(64, 0).append(0, 1, 256).tape(1, 0).appendThrows(1, 1, FULL);
        drive.fileIs(1, 3, 0).count(4, 1).cut(0, 192, 256).tape(1, 8).append(1, 1, 1).byteAt(1, false, 0, 8);
    }

    /** Promise 3: "or the row would be too long." */
    private void rowTooLong() {
        Drive drive = on("too long", 1024);
        drive.tape(1599, 0).append(0, 16, 25584).tape(17, 0).appendThrows(0, 1, FULL).fileIs(0, 0, 25584);
        drive.tape(1, 0).append(0, 16, 25600).tape(1, 0).appendThrows(0, 1, FULL).fileIs(0, 0, 25600).count(0, 400);
        drive.cut(0, 25537, 25600).tape(64, 0).appendThrows(0, 1, FULL).tape(63, 0).append(0, 1, 25600).count(2, 0);
    }

    /** Promise 3 with as many bytes as the promised calls can bring at once. */
    private void longestAppend() {
        Drive drive = on("65408 bytes", 1024);
        for (int i = 1; i <= 511; i++) {
            drive.feed(i, 8, 8 * i);
        }
        drive.appendThrows(0, 16, FULL).calls(512);
        drive = on("4000 bytes", 1024);
        drive.tape(4000, 0).append(0, 6, 24000).byteAt(0, false, 3999, 3999 % 256).byteAt(0, false, 4000, 0);
        drive.byteAt(0, false, 23999, 3999 % 256).count(0, 375);
    }

    /** Promise 3: "(An empty tape makes the file, too.)" */
    private void emptyTape() {
        Drive drive = on("empty tape", 8);
        for (int file = 0; file <= 15; file++) {
            drive.append(file, 1 + file, 0).file(file, 0, 0, 0, 1, 0, 0, 0, 0).count(4, file + 1);
        }
        drive.count(0, 0).count(2, 0).remove(3, true).append(3, 1, 0).count(4, 16);
    }

    /** The same sentence on a full disk, and for a file at its greatest size: there is nothing that needs a page. */
    private void emptyTapeWithNoPageUnused() {
        Drive drive = on("empty tape, full disk", 4);
        drive.tape(63, 0).append(0, 4, 252).sync(0, 4).append(1, 1, 0).count(4, 2).append(0, 16, 252).count(2, 0);
        drive.file(0, 252, 252, 252, 1, 1, 4, 4, 4);
        on("empty tape, longest row", 1024).tape(1600, 0).append(0, 16, 25600).append(0, 16, 25600).count(0, 400);
    }
}
