/** Promises 10 to 12: file, byteAt, count. */
public final class AskingTest {
    private final Check check = new Check("AskingTest");

    public static void main(String[] args) {
        AskingTest test = new AskingTest();
        test.file();
        test.fileWrongly();
        test.byteAt();
        test.byteAtWrongly();
        test.count();
        test.check.compare("NONE", "-1", String.valueOf(PageDrive.NONE));
        test.check.end();
    }

    private Drive on(String name, int pages) {
        return new Drive(check, name, pages);
    }

    private void file() {
        Drive drive = on("file", 30);
        drive.tape(64, 0).append(2, 3, 192).sync(2, 3).tape(9, 0).append(2, 1, 201).cut(2, 190, 201);
        drive.file(2, 190, 192, 190, 1, 1, 3, 3, 3);
        drive.tape(10, 0).append(2, 1, 200).file(2, 200, 192, 190, 1, 1, 4, 3, 2).count(2, 1);
        drive.twin(2, 3, 200).file(2, 200, 192, 190, 1, 1, 4, 3, 4).file(3, 200, 0, 0, 1, 0, 4, 0, 4);
        drive.remove(2, true).file(2, 0, 192, 0, 0, 1, 0, 3, 0).file(3, 200, 0, 0, 1, 0, 4, 0, 2);
    }

    private void fileWrongly() {
        Drive drive = on("file wrongly", 30);
        drive.fileThrows(-1, 0).fileThrows(16, 0).fileThrows(0, -1).fileThrows(0, 8).fileThrows(16, 8);
        drive.fileThrows(Integer.MIN_VALUE, 0).fileThrows(Integer.MAX_VALUE, 0);
        drive.fileThrows(0, Integer.MIN_VALUE).fileThrows(15, Integer.MAX_VALUE).file(15, 0, 0, 0, 0, 0, 0, 0, 0);
    }

    private void byteAt() {
        Drive drive = on("byteAt", 30);
        drive.tape(256, 0).append(0, 1, 256);
        for (int i = 0; i < 256; i++) {
            drive.byteAt(0, false, i, i);
        }
        drive.sync(0, 4).cut(0, 100, 256).tape(1, 255).append(0, 1, 101);
        drive.byteAt(0, false, 100, 255).byteAt(0, true, 100, 100).byteAt(0, true, 255, 255);
    }

    private void byteAtWrongly() {
        Drive drive = on("byteAt wrongly", 30);
        drive.tape(64, 0).append(0, 1, 64).sync(0, 1).tape(1, 0).append(0, 1, 65);
        drive.byteAtThrows(0, false, -1).byteAtThrows(0, false, 65).byteAtThrows(0, true, 64).byteAtThrows(0, true, -1);
        drive.byteAtThrows(0, false, Integer.MAX_VALUE).byteAtThrows(0, true, Integer.MIN_VALUE);
        drive.byteAtThrows(-1, false, 0).byteAtThrows(16, true, 0).byteAtThrows(Integer.MAX_VALUE, false, 0);
        drive.byteAtThrows(1, false, 0).byteAtThrows(1, true, 0).remove(0, true).byteAtThrows(0, false, 0);
        drive.byteAt(0, true, 0, 0);
    }

    private void count() {
        Drive drive = on("count", 6);
        drive.count(-1, -1).count(5, -1).count(Integer.MIN_VALUE, -1).count(Integer.MAX_VALUE, -1);
        drive.tape(60, 0).count(3, 60).append(0, 2, 120).count(0, 2).count(1, 6).count(2, 0).count(3, 0).count(4, 1);
        drive.twin(0, 1, 120).twin(0, 2, 120).count(0, 2).count(4, 3).tape(4, 0);
        drive.append(0, 1, 124).count(0, 3).count(2, 1).tape(4, 0).append(1, 1, 124).count(0, 4).count(2, 2);
        drive.tape(4, 0).append(2, 1, 124).count(0, 4).count(2, 2).sync(2, 2).remove(2, true).count(4, 2).count(0, 4);
        drive.sync(2, 0).count(0, 3).remove(0, true).remove(1, true).count(0, 0).count(2, 2).count(4, 0);
    }
}
