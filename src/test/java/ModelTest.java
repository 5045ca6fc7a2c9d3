import java.util.Random;
import java.util.function.LongSupplier;

/** All promises at once: runs of 512 drawn calls, each answered as the plain model answers it. */
public final class ModelTest {
    private static final int RUNS = 1500;
    private static final int CALLS = 512;
    private static final int[] POOLS = {4, 5, 8, 12, 20, 40, 100, 300, 1024, -3, 5000};
    private static final int[] ODD = {-1, 16, 17, 8, 9, Integer.MIN_VALUE, Integer.MAX_VALUE, 26000};

    private final Random random;
    private final PageDrive drive;
    private final PlainDrive model;
    private final int files;
    private final int biggest;

    private ModelTest(int seed) {
        random = new Random(seed);
        int pages = POOLS[random.nextInt(POOLS.length)];
        drive = new PageDrive(pages);
        model = new PlainDrive(pages);
        files = 1 + random.nextInt(random.nextBoolean() ? 3 : 16);
        biggest = random.nextInt(3);
    }

    public static void main(String[] args) {
        Check all = new Check("ModelTest");
        for (int seed = 1; seed <= RUNS; seed++) {
            ModelTest run = new ModelTest(seed);
            for (int i = 0; i < CALLS; i++) {
                run.call(all, "run " + seed + " call " + i + " ");
            }
        }
        all.end();
    }

    private int oddOr(int usual) {
        return random.nextInt(60) == 0 ? ODD[random.nextInt(ODD.length)] : usual;
    }

    private int file() {
        return oddOr(random.nextInt(files));
    }

    private static void same(Check all, String call, LongSupplier got, LongSupplier want) {
        all.compare(call, Check.answerOf(want), Check.answerOf(got));
    }

    private int sizeOf(int file, int what) {
        return file < 0 || file > 15 ? 10 : model.file(file, what);
    }

    private void call(Check all, String at) {
        int file = file();
        switch (random.nextInt(20)) {
            case 0: case 1: case 2: case 3: case 4: {
                long eight = random.nextLong();
                int n = oddOr(biggest == 0 ? 1 + random.nextInt(8) : 8);
                same(all, at + "feed(" + eight + ", " + n + ")",
                        () -> drive.feed(eight, n), () -> model.feed(eight, n));
                break;
            }
            case 5: case 6: case 7: {
                int times = oddOr(biggest == 2 ? 12 + random.nextInt(5) : 1 + random.nextInt(1 + 4 * biggest));
                same(all, at + "append(" + file + ", " + times + ")",
                        () -> drive.append(file, times), () -> model.append(file, times));
                break;
            }
            case 8: {
                int size = cutSize(sizeOf(file, 0));
                same(all, at + "cut(" + file + ", " + size + ")",
                        () -> drive.cut(file, size), () -> model.cut(file, size));
                break;
            }
            case 9: {
                if (random.nextInt(3) == 0) {
                    same(all, at + "remove(" + file + ")",
                            () -> drive.remove(file) ? 1 : 0, () -> model.remove(file) ? 1 : 0);
                }
                break;
            }
            case 10: {
                int to = file();
                same(all, at + "twin(" + file + ", " + to + ")",
                        () -> drive.twin(file, to), () -> model.twin(file, to));
                break;
            }
            case 11: case 12:
                same(all, at + "sync(" + file + ")", () -> drive.sync(file), () -> model.sync(file));
                break;
            case 13: {
                int keep = oddOr(random.nextInt(2 + 2 * Math.max(0, sizeOf(file, 0) - sizeOf(file, 2))));
                same(all, at + "crash(" + file + ", " + keep + ")",
                        () -> drive.crash(file, keep), () -> model.crash(file, keep));
                break;
            }
            default:
                ask(all, at, file);
        }
    }

    private int cutSize(int size) {
        int near = Math.max(0, size - random.nextInt(70));
        return oddOr(random.nextInt(4) == 0 ? random.nextInt(size + 2) : random.nextBoolean() ? near : near / 64 * 64);
    }

    private void ask(Check all, String at, int file) {
        switch (random.nextInt(7)) {
            case 0: case 1: {
                int what = oddOr(random.nextInt(8));
                same(all, at + "file(" + file + ", " + what + ")",
                        () -> drive.file(file, what), () -> model.file(file, what));
                break;
            }
            case 2: case 3: {
                boolean synced = random.nextBoolean();
                int i = oddOr(random.nextInt(2 + sizeOf(file, synced ? 1 : 0)) - 1);
                same(all, at + "byteAt(" + file + ", " + synced + ", " + i + ")",
                        () -> drive.byteAt(file, synced, i), () -> model.byteAt(file, synced, i));
                break;
            }
            case 4: {
                if (random.nextInt(4) == 0) {
                    long row = random.nextInt(10) == 0 ? random.nextInt(5) - 2 : random.nextLong();
                    same(all, at + "crashAll(" + row + ")", () -> drive.crashAll(row), () -> model.crashAll(row));
                }
                break;
            }
            default: {
                int what = oddOr(random.nextInt(6));
                same(all, at + "count(" + what + ")", () -> drive.count(what), () -> model.count(what));
            }
        }
    }
}
