/** Promises 1 to 3: a new object, feed, append. */
public final class TapeAndAppendTest {
    private static final Class<IndexOutOfBoundsException> INDEX = IndexOutOfBoundsException.class;
    private static final Class<UnsupportedOperationException> FULL = UnsupportedOperationException.class;
    private static final Class<IllegalArgumentException> ARGUMENT = IllegalArgumentException.class;

    private final Check check = new Check("TapeAndAppendTest");

    public static void main(String[] args) {
        TapeAndAppendTest test = new TapeAndAppendTest();
        test.newObject();
        test.feed();
        test.fullTape();
        test.append();
        test.appendOfNothing();
        test.copies();
        test.full();
        test.fullByACopy();
        test.longestRow();
        test.wrongNumbers();
        test.check.end();
    }

    private Drive on(String name, int pages) {
        return new Drive(check, name, pages);
    }

    private void newObject() {
        int[][] pagesAndDue = {{Integer.MIN_VALUE, 4}, {-5, 4}, {0, 4}, {3, 4}, {4, 4}, {5, 5}, {100, 100},
            {1023, 1023}, {1024, 1024}, {1025, 1024}, {Integer.MAX_VALUE, 1024}};
        for (int[] pair : pagesAndDue) {
            on("new " + pair[0], pair[0]).count(1, pair[1]).count(0, 0).count(2, 0).count(3, 0).count(4, 0);
        }
        Drive drive = on("new", 10);
        for (int file = 0; file < 16; file++) {
            drive.file(file, 0, 0, 0, 0, 0, 0, 0, 0).byteAtThrows(file, false, 0).byteAtThrows(file, true, 0);
        }
    }

    private void feed() {
        Drive drive = on("feed", 10);
        drive.feed(0x1122334455667788L, 8, 8).feed(0xFFFFFFFFFFFFFF99L, 1, 9).feed(0xCCBBAAL, 3, 12).count(3, 12);
        drive.feedThrows(1, 0, ARGUMENT).feedThrows(1, 9, ARGUMENT).feedThrows(1, -1, ARGUMENT);
        drive.feedThrows(1, Integer.MIN_VALUE, ARGUMENT).feedThrows(1, Integer.MAX_VALUE, ARGUMENT);
        drive.count(3, 12).append(0, 1, 12).count(3, 0);
        int[] due = {0x88, 0x77, 0x66, 0x55, 0x44, 0x33, 0x22, 0x11, 0x99, 0xAA, 0xBB, 0xCC};
        for (int i = 0; i < due.length; i++) {
            drive.byteAt(0, false, i, due[i]);
        }
    }

    /** The tape is full with the 512th call; what is refused behind it the document leaves free. */
    private void fullTape() {
        Drive drive = on("full tape", 10).beyondThePromisedCalls();
        for (int i = 1; i <= 512; i++) {
            drive.feed(i, 8, 8 * i);
        }
        drive.feedThrows(0, 9, ARGUMENT).feedThrows(0, 1, IllegalStateException.class).count(3, 4096);
    }

    private void append() {
        Drive drive = on("append", 100);
        drive.tape(3, 7).append(5, 16, 48).count(0, 1).count(4, 1).file(5, 48, 0, 0, 1, 0, 1, 0, 0);
        for (int i = 0; i < 48; i++) {
            drive.byteAt(5, false, i, 7 + i % 3);
        }
        drive.tape(16, 100).append(5, 1, 64).count(0, 1);
        drive.tape(1, 200).append(5, 1, 65).count(0, 2).count(2, 0);
        drive.byteAt(5, false, 63, 115).byteAt(5, false, 64, 200).byteAtThrows(5, false, 65);
        drive.append(5, 1, 65);
    }

    private void appendOfNothing() {
        Drive drive = on("append nothing", 4);
        drive.append(0, 16, 0).file(0, 0, 0, 0, 1, 0, 0, 0, 0).count(0, 0).count(4, 1);
        drive.tape(10, 1).append(0, 1, 10).sync(0, 1);
        drive.append(0, 2, 10).count(2, 0).count(0, 1).file(0, 10, 10, 10, 1, 1, 1, 1, 1);
        drive.tape(64, 1).append(1, 3, 192).count(0, 4).append(0, 1, 10).append(2, 1, 0).count(4, 3);
    }

    private void copies() {
        Drive drive = on("copies", 100);
        drive.tape(64, 0).append(0, 1, 64).sync(0, 1);
        drive.tape(1, 9).append(0, 1, 65).count(2, 0).count(0, 2);
        drive.tape(1, 10).append(0, 1, 66).count(2, 0).count(0, 2);
        drive.sync(0, 1).tape(1, 11).append(0, 1, 67).count(2, 1).count(0, 3);
        drive.byteAt(0, false, 65, 10).byteAt(0, false, 66, 11).byteAtThrows(0, true, 66);
        drive.tape(1, 12).append(0, 1, 68).count(2, 1).count(0, 3);
        drive.cut(0, 30, 68).tape(2, 13).append(0, 1, 32).count(2, 2).count(0, 3);
        drive.byteAt(0, false, 29, 29).byteAt(0, false, 30, 13).byteAt(0, true, 30, 30);
    }

    private void full() {
        Drive drive = on("full", 5);
        drive.tape(64, 0).append(0, 4, 256).tape(65, 0).appendThrows(1, 1, FULL);
        drive.count(3, 0).count(0, 4).count(4, 1).file(1, 0, 0, 0, 0, 0, 0, 0, 0);
        drive.tape(33, 0).appendThrows(0, 2, FULL).file(0, 256, 0, 0, 1, 0, 4, 0, 0).count(3, 0);
        drive.tape(64, 5).append(1, 1, 64).count(0, 5).tape(1, 0).appendThrows(0, 1, FULL);
        drive.cut(0, 192, 256).tape(1, 77).append(1, 1, 65).count(0, 5);
        drive.byteAt(1, false, 64, 77).byteAt(0, false, 191, 63);
        drive.remove(1, true).count(0, 3).tape(64, 0).append(0, 2, 320).count(0, 5);
    }

    private void fullByACopy() {
        Drive drive = on("full by a copy", 4);
        drive.tape(63, 0).append(0, 1, 63).sync(0, 1).tape(64, 0).append(1, 2, 128).count(0, 3);
        drive.tape(2, 90).append(1, 1, 130).count(0, 4).tape(1, 0).appendThrows(0, 1, FULL).count(2, 0);
        drive.cut(1, 128, 130).tape(2, 90).appendThrows(0, 1, FULL).count(2, 0).file(0, 63, 63, 63, 1, 1, 1, 1, 1);
        drive.tape(1, 91).append(0, 1, 64).count(2, 1).count(0, 4).byteAt(0, false, 63, 91).byteAt(0, false, 62, 62);
        // Without the synced row the page is the file's own, and is written where it is.
        drive = on("no copy of an own page", 4);
        drive.tape(63, 0).append(0, 4, 252).tape(4, 1).append(0, 1, 256).count(0, 4).count(2, 0);
    }

    private void longestRow() {
        Drive drive = on("longest row", 1024);
        drive.tape(1600, 0).append(0, 16, 25600).count(0, 400).file(0, 25600, 0, 0, 1, 0, 400, 0, 0);
        drive.tape(1, 0).appendThrows(0, 1, FULL).count(3, 0).append(0, 1, 25600);
        drive.cut(0, 25599, 25600).tape(2, 5).appendThrows(0, 1, FULL).tape(1, 6).append(0, 1, 25600);
        drive.byteAt(0, false, 25599, 6).byteAtThrows(0, false, 25600);
        drive.sync(0, 400).tape(1, 0).appendThrows(0, 1, FULL).count(0, 400).count(2, 0);
    }

    private void wrongNumbers() {
        Drive drive = on("wrong append", 10);
        drive.tape(5, 0);
        int[][] wrong = {{-1, 1}, {16, 1}, {0, 0}, {0, 17}, {0, -1}, {Integer.MIN_VALUE, 1},
            {Integer.MAX_VALUE, 1}, {0, Integer.MAX_VALUE}, {0, Integer.MIN_VALUE}, {16, 17}};
        for (int[] pair : wrong) {
            drive.appendThrows(pair[0], pair[1], INDEX).count(3, 5).count(4, 0);
        }
        drive.append(15, 1, 5).append(0, 1, 0).count(4, 2);
    }
}
