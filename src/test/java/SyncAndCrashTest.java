/** Promises 7 to 9: sync, crash, crashAll. */
public final class SyncAndCrashTest {
    private static final Class<IndexOutOfBoundsException> INDEX = IndexOutOfBoundsException.class;
    private static final Class<IllegalArgumentException> ARGUMENT = IllegalArgumentException.class;

    private final Check check = new Check("SyncAndCrashTest");

    public static void main(String[] args) {
        SyncAndCrashTest test = new SyncAndCrashTest();
        test.sync();
        test.syncOfATwin();
        test.crashToSynced();
        test.crashWithKeep();
        test.crashWithKeepBelowSynced();
        test.crashOfWhatIsNotThere();
        test.crashWrongly();
        test.crashAll();
        test.crashAllOfMany();
        test.check.end();
    }

    private Drive on(String name, int pages) {
        return new Drive(check, name, pages);
    }

    private void sync() {
        Drive drive = on("sync", 20);
        drive.sync(0, 0).file(0, 0, 0, 0, 0, 0, 0, 0, 0);
        drive.append(0, 1, 0).sync(0, 0).file(0, 0, 0, 0, 1, 1, 0, 0, 0);
        drive.tape(50, 0).append(0, 4, 200).sync(0, 4).file(0, 200, 200, 200, 1, 1, 4, 4, 4).count(0, 4);
        drive.sync(0, 0).tape(60, 0).append(0, 1, 260).sync(0, 2).count(0, 5).count(2, 1);
        drive.cut(0, 130, 260).sync(0, 0).count(0, 3).file(0, 130, 130, 130, 1, 1, 3, 3, 3);
        drive.cut(0, 10, 130).tape(54, 0).append(0, 2, 118).sync(0, 2).file(0, 118, 118, 118);
        drive.remove(0, true).sync(0, 0).count(0, 0).file(0, 0, 0, 0, 0, 0, 0, 0, 0);
        drive.syncThrows(-1).syncThrows(16).syncThrows(Integer.MAX_VALUE).syncThrows(Integer.MIN_VALUE);
    }

    private void syncOfATwin() {
        Drive drive = on("sync of a twin", 20);
        drive.tape(64, 0).append(0, 3, 192).twin(0, 1, 192).sync(1, 3).sync(0, 3).count(0, 3);
        drive.tape(64, 0).append(1, 1, 256).twin(1, 0, 256).sync(0, 1).sync(1, 1).file(0, 256, 256, 256);
        // A page that the synced row had once, and has no more, counts as any other.
        drive.twin(0, 2, 256).cut(0, 64, 256).sync(0, 0).twin(2, 0, 256).sync(0, 3).file(0, 256, 256, 256);
    }

    private void crashToSynced() {
        Drive drive = on("crash to synced", 20);
        drive.tape(70, 0).append(0, 1, 70).sync(0, 2).tape(10, 200).append(0, 1, 80).count(0, 3);
        drive.crash(0, 0, 70).file(0, 70, 70, 70, 1, 1, 2, 2, 2).count(0, 2).byteAtThrows(0, false, 70);
        drive.cut(0, 5, 70).tape(10, 200).append(0, 1, 15).crash(0, 0, 70).byteAt(0, false, 5, 5);
        drive.remove(0, true).crash(0, 0, 70).file(0, 70, 70, 70, 1, 1, 2, 2, 2).count(4, 1);
        drive.tape(10, 0).append(1, 1, 10).crash(1, 0, 0).file(1, 0, 0, 0, 0, 0, 0, 0, 0).count(0, 2);
        drive.tape(3, 0).twin(0, 1, 70).crash(1, 0, 0).count(4, 1).count(0, 2).count(3, 3);
    }

    private void crashWithKeep() {
        Drive drive = on("crash with keep", 20);
        drive.tape(70, 0).append(0, 1, 70).sync(0, 2).tape(10, 200).append(0, 1, 80);
        drive.crash(0, 4, 73).file(0, 73, 73, 73, 1, 1, 2, 2, 2).count(0, 2).byteAt(0, true, 72, 202);
        drive.tape(10, 100).append(0, 1, 83).crash(0, 11, 83).file(0, 83, 83, 83);
        drive.tape(10, 100).append(0, 1, 93).crash(0, 10, 92).file(0, 92, 92, 92);
        drive.tape(10, 100).append(0, 1, 102).crash(0, 1, 92).file(0, 92, 92, 92);
        drive.tape(10, 100).append(0, 1, 102).crash(0, Integer.MAX_VALUE, 102).file(0, 102, 102, 102);
        drive.tape(10, 100).append(1, 1, 10).crash(1, 1, 0).file(1, 0, 0, 0, 1, 1, 0, 0, 0);
        drive.tape(10, 100).append(2, 1, 10).crash(2, 2, 1).file(2, 1, 1, 1, 1, 1, 1, 1, 1);
    }

    private void crashWithKeepBelowSynced() {
        Drive drive = on("crash below synced", 20);
        drive.tape(70, 0).append(0, 1, 70).sync(0, 2).cut(0, 20, 70).tape(60, 100).append(0, 1, 80);
        drive.file(0, 80, 70, 20).crash(0, 6, 25).file(0, 25, 25, 25, 1, 1, 1, 1, 1).count(0, 1);
        drive.byteAt(0, true, 19, 19).byteAt(0, true, 20, 100).byteAt(0, true, 24, 104);
        drive.twin(0, 0, 25).crash(0, 3, 2).file(0, 2, 2, 2).remove(0, true).tape(9, 0).append(0, 1, 9);
        drive.file(0, 9, 2, 0).crash(0, 8, 7).file(0, 7, 7, 7);
    }

    private void crashOfWhatIsNotThere() {
        Drive drive = on("crash of nothing", 20);
        drive.crash(7, 0, 0).crash(7, 1, 0).crash(7, Integer.MAX_VALUE, 0).file(7, 0, 0, 0, 0, 0, 0, 0, 0);
        drive.tape(9, 0).append(7, 1, 9).sync(7, 1).remove(7, true).crash(7, 5, 0);
        drive.file(7, 0, 0, 0, 0, 0, 0, 0, 0).count(0, 0).count(4, 0);
    }

    private void crashWrongly() {
        Drive drive = on("crash wrongly", 20);
        drive.tape(9, 0).append(0, 1, 9);
        drive.crashThrows(-1, 0, INDEX).crashThrows(16, 0, INDEX).crashThrows(16, -1, INDEX);
        drive.crashThrows(Integer.MAX_VALUE, 1, INDEX).crashThrows(Integer.MIN_VALUE, 1, INDEX);
        drive.crashThrows(0, -1, ARGUMENT).crashThrows(0, Integer.MIN_VALUE, ARGUMENT);
        drive.file(0, 9, 0, 0, 1, 0, 1, 0, 0).crash(15, 0, 0);
    }

    /** The keeps are drawn here as the document's words go, apart from the class. */
    private static int keep(long drawn, int size, int low) {
        String bits = String.format("%64s", Long.toBinaryString(drawn)).replace(' ', '0');
        if (bits.startsWith("000")) {
            return 0;
        }
        return 1 + Integer.parseInt(bits.substring(63 - 52, 64 - 33), 2) % (2 * (size - low) + 1);
    }

    private void crashAll() {
        on("crashAll of nothing", 20).crashAll(0, 0).crashAll(Long.MIN_VALUE, 0).crashAll(Long.MAX_VALUE, 0);
        int[] dueOfKind = new int[3];
        for (long row = -40; row < 40; row++) {
            Drive drive = on("crashAll " + row, 20);
            drive.tape(20, 0).append(0, 1, 20).sync(0, 1).cut(0, 12, 20).tape(30, 50).append(0, 1, 42);
            int keep = keep(row * 6364136223846793005L + 1442695040888963407L, 42, 12);
            int due = keep == 0 ? 20 : Math.min(42, 12 + keep - 1);
            dueOfKind[keep == 0 ? 0 : due < 42 ? 1 : 2]++;
            drive.crashAll(row, 1).file(0, due, due, due, 1, 1, 1, 1, 1).count(0, 1).count(3, 0);
        }
        for (int kind = 0; kind < 3; kind++) {
            check.compare("some row of kind " + kind, "true", String.valueOf(dueOfKind[kind] > 0));
        }
    }

    private void crashAllOfMany() {
        for (long row = 1; row < 20; row++) {
            Drive drive = on("crashAll of many " + row, 100);
            drive.tape(40, 0).append(0, 1, 40);
            for (int file = 1; file < 16; file++) {
                drive.twin(0, file, 40);
            }
            drive.sync(3, 1).remove(3, true).remove(4, true);
            long drawn = row * 1000003;
            int there = 0;
            int[] due = new int[16];
            for (int file = 0; file < 16; file++) {
                drawn = drawn * 6364136223846793005L + 1442695040888963407L;
                int size = file == 3 || file == 4 ? 0 : 40;
                int keep = keep(drawn, size, 0);
                due[file] = keep != 0 ? Math.min(size, keep - 1) : file == 3 ? 40 : 0;
                there += (keep == 0 ? file == 3 : size == 40) ? 1 : 0;
            }
            drive.crashAll(row * 1000003, there).count(4, there);
            for (int file = 0; file < 16; file++) {
                drive.file(file, due[file], due[file], due[file]);
            }
        }
    }
}
