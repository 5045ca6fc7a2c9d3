import java.util.function.LongSupplier;

/** A PageDrive with its calls checked, so that a test is a list of calls and answers due. */
final class Drive {
    private static final Class<IndexOutOfBoundsException> INDEX = IndexOutOfBoundsException.class;
    private static final int CALLS_PROMISED = 512;

    private final PageDrive drive;
    private final Check check;
    private final String name;
    private int calls = 0;
    private boolean anyNumber = false;

    Drive(Check check, String name, int pages) {
        this.check = check;
        this.name = name;
        drive = new PageDrive(pages);
    }

    /** For the few tests of what can only be seen behind the last call that the document speaks of. */
    Drive beyondThePromisedCalls() {
        anyNumber = true;
        return this;
    }

    /** A test that asks more than the document promises would hold the class to nothing. */
    private void counted() {
        calls++;
        if (calls == CALLS_PROMISED + 1 && !anyNumber) {
            check.compare(name + " calls", "at most " + CALLS_PROMISED, "more");
        }
    }

    /** How many calls were made, so that a test can show that it ends with the last promised one. */
    Drive calls(int want) {
        check.compare(name + " calls", String.valueOf(want), String.valueOf(calls));
        return this;
    }

    private Drive due(String call, long want, LongSupplier answer) {
        counted();
        check.due(name + " " + call, want, answer);
        return this;
    }

    private Drive dueThrow(String call, Class<? extends RuntimeException> want, LongSupplier answer) {
        counted();
        check.dueThrow(name + " " + call, want, answer);
        return this;
    }

    /** Feeds bytes first, first + 1 and so on (mod 256) until the tape has n more of them. */
    Drive tape(int n, int first) {
        for (int done = 0; done < n; done += 8) {
            long eight = 0;
            for (int i = 7; i >= 0; i--) {
                eight = (eight << 8) | ((first + done + i) & 0xFF);
            }
            counted();
            drive.feed(eight, Math.min(8, n - done));
        }
        return this;
    }

    Drive feed(long eight, int n, long want) {
        return due("feed(" + eight + ", " + n + ")", want, () -> drive.feed(eight, n));
    }

    Drive feedThrows(long eight, int n, Class<? extends RuntimeException> want) {
        return dueThrow("feed(" + eight + ", " + n + ")", want, () -> drive.feed(eight, n));
    }

    Drive append(int file, int times, long want) {
        return due("append(" + file + ", " + times + ")", want, () -> drive.append(file, times));
    }

    Drive appendThrows(int file, int times, Class<? extends RuntimeException> want) {
        return dueThrow("append(" + file + ", " + times + ")", want, () -> drive.append(file, times));
    }

    Drive cut(int file, int size, long want) {
        return due("cut(" + file + ", " + size + ")", want, () -> drive.cut(file, size));
    }

    Drive cutThrows(int file, int size, Class<? extends RuntimeException> want) {
        return dueThrow("cut(" + file + ", " + size + ")", want, () -> drive.cut(file, size));
    }

    Drive remove(int file, boolean want) {
        return due("remove(" + file + ")", want ? 1 : 0, () -> drive.remove(file) ? 1 : 0);
    }

    Drive removeThrows(int file) {
        return dueThrow("remove(" + file + ")", INDEX, () -> drive.remove(file) ? 1 : 0);
    }

    Drive twin(int from, int to, long want) {
        return due("twin(" + from + ", " + to + ")", want, () -> drive.twin(from, to));
    }

    Drive twinThrows(int from, int to, Class<? extends RuntimeException> want) {
        return dueThrow("twin(" + from + ", " + to + ")", want, () -> drive.twin(from, to));
    }

    Drive sync(int file, long want) {
        return due("sync(" + file + ")", want, () -> drive.sync(file));
    }

    Drive syncThrows(int file) {
        return dueThrow("sync(" + file + ")", INDEX, () -> drive.sync(file));
    }

    Drive crash(int file, int keep, long want) {
        return due("crash(" + file + ", " + keep + ")", want, () -> drive.crash(file, keep));
    }

    Drive crashThrows(int file, int keep, Class<? extends RuntimeException> want) {
        return dueThrow("crash(" + file + ", " + keep + ")", want, () -> drive.crash(file, keep));
    }

    Drive crashAll(long row, long want) {
        return due("crashAll(" + row + ")", want, () -> drive.crashAll(row));
    }

    /** All that file() tells, what 0 to 7 in their order. */
    Drive file(int file, int... wants) {
        for (int what = 0; what < wants.length; what++) {
            fileIs(file, what, wants[what]);
        }
        return this;
    }

    Drive fileIs(int file, int what, int want) {
        return due("file(" + file + ", " + what + ")", want, () -> drive.file(file, what));
    }

    Drive fileThrows(int file, int what) {
        return dueThrow("file(" + file + ", " + what + ")", INDEX, () -> drive.file(file, what));
    }

    Drive byteAt(int file, boolean synced, int i, long want) {
        return due("byteAt(" + file + ", " + synced + ", " + i + ")", want, () -> drive.byteAt(file, synced, i));
    }

    Drive byteAtThrows(int file, boolean synced, int i) {
        return dueThrow("byteAt(" + file + ", " + synced + ", " + i + ")", INDEX,
                () -> drive.byteAt(file, synced, i));
    }

    Drive count(int what, long want) {
        return due("count(" + what + ")", want, () -> drive.count(what));
    }

    /** All that the drive tells of itself and of some files, every byte too. */
    String state(int... files) {
        StringBuilder told = new StringBuilder();
        for (int what = 0; what < 5; what++) {
            counted();
            told.append(drive.count(what)).append(' ');
        }
        for (int file : files) {
            told.append("/ file ").append(file).append(": ");
            for (int what = 0; what < 8; what++) {
                counted();
                told.append(drive.file(file, what)).append(' ');
            }
            bytesTo(told, file, false);
            bytesTo(told, file, true);
        }
        return told.toString();
    }

    private void bytesTo(StringBuilder told, int file, boolean synced) {
        counted();
        int size = drive.file(file, synced ? 1 : 0);
        for (int i = 0; i < size; i++) {
            counted();
            told.append(drive.byteAt(file, synced, i)).append(' ');
        }
    }

    /** Nothing that the drive tells of itself and of these files has changed since. */
    Drive unchanged(String before, int... files) {
        check.compare(name + " state", before, state(files));
        return this;
    }
}
