/** A PageDrive with its calls checked, so that a test is a list of calls and answers due. */
final class Drive {
    private static final Class<IndexOutOfBoundsException> INDEX = IndexOutOfBoundsException.class;

    final PageDrive drive;
    private final Check check;
    private final String name;

    Drive(Check check, String name, int pages) {
        this.check = check;
        this.name = name;
        drive = new PageDrive(pages);
    }

    /** Feeds bytes first, first + 1 and so on (mod 256) until the tape has n more of them. */
    Drive tape(int n, int first) {
        for (int done = 0; done < n; done += 8) {
            long eight = 0;
            for (int i = 7; i >= 0; i--) {
                eight = (eight << 8) | ((first + done + i) & 0xFF);
            }
            drive.feed(eight, Math.min(8, n - done));
        }
        return this;
    }

    Drive feed(long eight, int n, long want) {
        check.due(name + " feed(" + eight + ", " + n + ")", want, () -> drive.feed(eight, n));
        return this;
    }

    Drive feedThrows(long eight, int n, Class<? extends RuntimeException> want) {
        check.dueThrow(name + " feed(" + eight + ", " + n + ")", want, () -> drive.feed(eight, n));
        return this;
    }

    Drive append(int file, int times, long want) {
        check.due(name + " append(" + file + ", " + times + ")", want, () -> drive.append(file, times));
        return this;
    }

    Drive appendThrows(int file, int times, Class<? extends RuntimeException> want) {
        check.dueThrow(name + " append(" + file + ", " + times + ")", want, () -> drive.append(file, times));
        return this;
    }

    Drive cut(int file, int size, long want) {
        check.due(name + " cut(" + file + ", " + size + ")", want, () -> drive.cut(file, size));
        return this;
    }

    Drive cutThrows(int file, int size, Class<? extends RuntimeException> want) {
        check.dueThrow(name + " cut(" + file + ", " + size + ")", want, () -> drive.cut(file, size));
        return this;
    }

    Drive remove(int file, boolean want) {
        check.due(name + " remove(" + file + ")", want ? 1 : 0, () -> drive.remove(file) ? 1 : 0);
        return this;
    }

    Drive removeThrows(int file) {
        check.dueThrow(name + " remove(" + file + ")", INDEX, () -> drive.remove(file) ? 1 : 0);
        return this;
    }

    Drive twin(int from, int to, long want) {
        check.due(name + " twin(" + from + ", " + to + ")", want, () -> drive.twin(from, to));
        return this;
    }

    Drive twinThrows(int from, int to, Class<? extends RuntimeException> want) {
        check.dueThrow(name + " twin(" + from + ", " + to + ")", want, () -> drive.twin(from, to));
        return this;
    }

    Drive sync(int file, long want) {
        check.due(name + " sync(" + file + ")", want, () -> drive.sync(file));
        return this;
    }

    Drive syncThrows(int file) {
        check.dueThrow(name + " sync(" + file + ")", INDEX, () -> drive.sync(file));
        return this;
    }

    Drive crash(int file, int keep, long want) {
        check.due(name + " crash(" + file + ", " + keep + ")", want, () -> drive.crash(file, keep));
        return this;
    }

    Drive crashThrows(int file, int keep, Class<? extends RuntimeException> want) {
        check.dueThrow(name + " crash(" + file + ", " + keep + ")", want, () -> drive.crash(file, keep));
        return this;
    }

    Drive crashAll(long row, long want) {
        check.due(name + " crashAll(" + row + ")", want, () -> drive.crashAll(row));
        return this;
    }

    /** All that file() tells, what 0 to 7 in their order. */
    Drive file(int file, int... wants) {
        for (int what = 0; what < wants.length; what++) {
            int asked = what;
            check.due(name + " file(" + file + ", " + what + ")", wants[what], () -> drive.file(file, asked));
        }
        return this;
    }

    Drive fileThrows(int file, int what) {
        check.dueThrow(name + " file(" + file + ", " + what + ")", INDEX, () -> drive.file(file, what));
        return this;
    }

    Drive byteAt(int file, boolean synced, int i, long want) {
        check.due(name + " byteAt(" + file + ", " + synced + ", " + i + ")", want,
                () -> drive.byteAt(file, synced, i));
        return this;
    }

    Drive byteAtThrows(int file, boolean synced, int i) {
        check.dueThrow(name + " byteAt(" + file + ", " + synced + ", " + i + ")", INDEX,
                () -> drive.byteAt(file, synced, i));
        return this;
    }

    Drive count(int what, long want) {
        check.due(name + " count(" + what + ")", want, () -> drive.count(what));
        return this;
    }
}
