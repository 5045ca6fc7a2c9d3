import java.util.NoSuchElementException;

/** Promises 4 to 6: cut, remove, twin. */
public final class CutRemoveTwinTest {
    private static final Class<IndexOutOfBoundsException> INDEX = IndexOutOfBoundsException.class;
    private static final Class<NoSuchElementException> NO_FILE = NoSuchElementException.class;
    private static final Class<IllegalArgumentException> ARGUMENT = IllegalArgumentException.class;

    private final Check check = new Check("CutRemoveTwinTest");

    public static void main(String[] args) {
        CutRemoveTwinTest test = new CutRemoveTwinTest();
        test.cut();
        test.cutWrongly();
        test.cutAndWriteAgain();
        test.remove();
        test.twin();
        test.twinOfItself();
        test.twinOverAFile();
        test.twinWrongly();
        test.check.end();
    }

    private Drive on(String name, int pages) {
        return new Drive(check, name, pages);
    }

    private void cut() {
        Drive drive = on("cut", 10);
        drive.tape(50, 0).append(3, 4, 200).count(0, 4).sync(3, 4).file(3, 200, 200, 200, 1, 1, 4, 4, 4);
        drive.cut(3, 200, 200).file(3, 200, 200, 200, 1, 1, 4, 4, 4);
        drive.cut(3, 193, 200).file(3, 193, 200, 193, 1, 1, 4, 4, 4);
        drive.cut(3, 192, 193).file(3, 192, 200, 192, 1, 1, 3, 4, 3).byteAtThrows(3, false, 192);
        drive.cut(3, 1, 192).file(3, 1, 200, 1, 1, 1, 1, 4, 1).count(0, 4);
        drive.cut(3, 0, 1).file(3, 0, 200, 0, 1, 1, 0, 4, 0).count(0, 4).count(4, 1);
        drive.sync(3, 0).file(3, 0, 0, 0, 1, 1, 0, 0, 0).count(0, 0).cut(3, 0, 0);
        drive.tape(70, 0).append(3, 1, 70).sync(3, 2).tape(5, 0).append(3, 1, 75);
        drive.cut(3, 72, 75).file(3, 72, 70, 70, 1, 1, 2, 2, 1);
        drive.cut(3, 60, 72).tape(5, 0).append(3, 1, 65).cut(3, 63, 65).file(3, 63, 70, 60, 1, 1, 1, 2, 0);
    }

    private void cutWrongly() {
        Drive drive = on("cut wrongly", 10);
        drive.tape(20, 0).append(0, 1, 20);
        drive.cutThrows(-1, 0, INDEX).cutThrows(16, 0, INDEX).cutThrows(16, -1, INDEX);
        drive.cutThrows(Integer.MIN_VALUE, 0, INDEX).cutThrows(Integer.MAX_VALUE, 0, INDEX);
        drive.cutThrows(1, 0, NO_FILE).cutThrows(1, -1, NO_FILE).cutThrows(15, 5, NO_FILE);
        drive.cutThrows(0, -1, ARGUMENT).cutThrows(0, 21, ARGUMENT);
        drive.cutThrows(0, Integer.MIN_VALUE, ARGUMENT).cutThrows(0, Integer.MAX_VALUE, ARGUMENT);
        drive.file(0, 20, 0, 0, 1, 0, 1, 0, 0).sync(0, 1).remove(0, true).cutThrows(0, 0, NO_FILE);
    }

    private void cutAndWriteAgain() {
        Drive drive = on("cut and write again", 4);
        drive.tape(64, 0).append(0, 4, 256).cut(0, 100, 256).count(0, 2);
        drive.tape(28, 200).append(0, 1, 128).count(0, 2).count(2, 0);
        drive.byteAt(0, false, 99, 35).byteAt(0, false, 100, 200).byteAt(0, false, 127, 227);
        drive.tape(64, 1).append(1, 2, 128).count(0, 4).byteAt(0, false, 0, 0).byteAt(1, false, 127, 64);
    }

    private void remove() {
        Drive drive = on("remove", 10);
        drive.remove(0, false).removeThrows(-1).removeThrows(16);
        drive.removeThrows(Integer.MIN_VALUE).removeThrows(Integer.MAX_VALUE);
        drive.append(0, 1, 0).remove(0, true).remove(0, false);
        drive.tape(65, 0).append(15, 1, 65).sync(15, 2).remove(15, true);
        drive.file(15, 0, 65, 0, 0, 1, 0, 2, 0).count(0, 2).count(4, 0).byteAt(15, true, 64, 64);
        drive.remove(15, false).tape(3, 50).append(15, 1, 3).count(0, 3).count(2, 0);
        drive.file(15, 3, 65, 0, 1, 1, 1, 2, 0).byteAt(15, false, 0, 50).byteAt(15, true, 0, 0);
        drive.remove(15, true).sync(15, 0).count(0, 0).file(15, 0, 0, 0, 0, 0, 0, 0, 0);
    }

    private void twin() {
        Drive drive = on("twin", 4);
        drive.tape(50, 0).append(1, 4, 200).twin(1, 2, 200).count(0, 4).count(4, 2).count(2, 0);
        drive.file(2, 200, 0, 0, 1, 0, 4, 0, 4).file(1, 200, 0, 0, 1, 0, 4, 0, 4);
        drive.tape(1, 7).appendThrows(2, 1, UnsupportedOperationException.class).cut(2, 128, 200).count(0, 4);
        drive.file(1, 200, 0, 0, 1, 0, 4, 0, 2).cut(1, 190, 200).cut(1, 128, 190).count(0, 2);
        drive.tape(1, 7).append(2, 1, 129).tape(1, 8).append(1, 1, 129).count(0, 4).count(2, 0);
        drive.byteAt(2, false, 128, 7).byteAt(1, false, 128, 8).byteAt(2, false, 127, 27);
        drive.remove(1, true).count(0, 3).byteAt(2, false, 127, 27);
    }

    private void twinOfItself() {
        Drive drive = on("twin of itself", 10);
        drive.tape(70, 0).append(4, 1, 70).sync(4, 2).file(4, 70, 70, 70, 1, 1, 2, 2, 2);
        drive.twin(4, 4, 70).file(4, 70, 70, 0, 1, 1, 2, 2, 2).count(0, 2).byteAt(4, false, 69, 69);
        drive.cut(4, 50, 70).file(4, 50, 70, 0, 1, 1, 1, 2, 1).sync(4, 0).file(4, 50, 50, 50, 1, 1, 1, 1, 1);
        drive.remove(4, true).twinThrows(4, 4, NO_FILE);
    }

    private void twinOverAFile() {
        Drive drive = on("twin over a file", 10);
        drive.tape(70, 0).append(0, 1, 70).sync(0, 2).tape(10, 100).append(1, 16, 160).count(0, 5);
        drive.twin(0, 1, 70).count(0, 2).file(1, 70, 0, 0, 1, 0, 2, 0, 2).file(0, 70, 70, 70, 1, 1, 2, 2, 2);
        drive.tape(1, 5).append(1, 1, 71).count(0, 3).count(2, 1).sync(1, 2).twin(1, 0, 71);
        drive.file(0, 71, 70, 0, 1, 1, 2, 2, 2).byteAt(0, false, 70, 5).byteAtThrows(0, true, 70).sync(0, 1);
        drive.append(2, 1, 0).twin(2, 0, 0).file(0, 0, 71, 0, 1, 1, 0, 2, 0).sync(0, 0).count(0, 2);
    }

    private void twinWrongly() {
        Drive drive = on("twin wrongly", 10);
        int[][] wrong = {{-1, 0}, {16, 0}, {0, -1}, {0, 16}, {16, 16}, {1, 16}, {Integer.MAX_VALUE, 0},
            {0, Integer.MIN_VALUE}};
        drive.append(0, 1, 0);
        for (int[] pair : wrong) {
            drive.twinThrows(pair[0], pair[1], INDEX);
        }
        drive.twinThrows(1, 0, NO_FILE).twinThrows(15, 15, NO_FILE).count(4, 1);
        drive.tape(9, 0).append(1, 1, 9).sync(1, 1).remove(1, true).twinThrows(1, 0, NO_FILE).file(0, 0);
    }
}
