import java.util.ArrayList;
import java.util.Collections;
import java.util.IdentityHashMap;
import java.util.List;
import java.util.NoSuchElementException;
import java.util.Set;

/** The document in its slowest form: pages are objects, and what is used or shared is looked up anew. */
final class PlainDrive {
    private static final int LONGEST_ROW = 400;

    private static final class Content {
        boolean there = false;
        int size = 0;
        List<int[]> row = new ArrayList<>();

        Content same() {
            Content content = new Content();
            content.there = there;
            content.size = size;
            content.row = new ArrayList<>(row);
            return content;
        }
    }

    private final int pages;
    private final Content[] now = new Content[16];
    private final Content[] synced = new Content[16];
    private final int[] low = new int[16];
    private final List<Integer> tape = new ArrayList<>();
    private int copied = 0;

    PlainDrive(int pages) {
        this.pages = pages < 4 ? 4 : pages > 1024 ? 1024 : pages;
        for (int i = 0; i < 16; i++) {
            now[i] = new Content();
            synced[i] = new Content();
        }
    }

    private int rowsWith(int[] page) {
        int rows = 0;
        for (int i = 0; i < 16; i++) {
            rows += has(now[i], page) ? 1 : 0;
            rows += has(synced[i], page) ? 1 : 0;
        }
        return rows;
    }

    private static boolean has(Content content, int[] page) {
        for (int[] one : content.row) {
            if (one == page) {
                return true;
            }
        }
        return false;
    }

    private int used() {
        Set<int[]> used = Collections.newSetFromMap(new IdentityHashMap<>());
        for (int i = 0; i < 16; i++) {
            used.addAll(now[i].row);
            used.addAll(synced[i].row);
        }
        return used.size();
    }

    private static void look(int file) {
        if (file < 0 || file > 15) {
            throw new IndexOutOfBoundsException();
        }
    }

    int feed(long eight, int n) {
        if (n < 1 || n > 8) {
            throw new IllegalArgumentException();
        }
        if (tape.size() + n > 4096) {
            throw new IllegalStateException();
        }
        for (int i = 0; i < n; i++) {
            tape.add((int) (eight >> (8 * i)) & 0xFF);
        }
        return tape.size();
    }

    /** Appends to a trial content byte by byte, and keeps it only if the pages suffice. */
    int append(int file, int times) {
        look(file);
        if (times < 1 || times > 16) {
            throw new IndexOutOfBoundsException();
        }
        List<Integer> bytes = new ArrayList<>();
        for (int t = 0; t < times; t++) {
            bytes.addAll(tape);
        }
        tape.clear();
        Content trial = now[file].same();
        trial.there = true;
        int fresh = 0;
        boolean copy = !bytes.isEmpty() && trial.size % 64 != 0 && rowsWith(trial.row.get(trial.size / 64)) > 1;
        if (copy) {
            trial.row.set(trial.size / 64, trial.row.get(trial.size / 64).clone());
            fresh++;
        }
        for (int i = 0; i < bytes.size(); i++) {
            if ((trial.size + i) / 64 == trial.row.size()) {
                trial.row.add(new int[64]);
                fresh++;
            }
        }
        if (trial.row.size() > LONGEST_ROW || used() + fresh > pages) {
            throw new UnsupportedOperationException();
        }
        for (int one : bytes) {
            trial.row.get(trial.size / 64)[trial.size % 64] = one;
            trial.size++;
        }
        copied += copy ? 1 : 0;
        now[file] = trial;
        return trial.size;
    }

    private void shorten(int file, int size) {
        now[file].size = size;
        while (now[file].row.size() * 64 >= size + 64) {
            now[file].row.remove(now[file].row.size() - 1);
        }
    }

    int cut(int file, int size) {
        look(file);
        if (!now[file].there) {
            throw new NoSuchElementException();
        }
        int before = now[file].size;
        if (size < 0 || size > before) {
            throw new IllegalArgumentException();
        }
        shorten(file, size);
        low[file] = Math.min(low[file], size);
        return before;
    }

    boolean remove(int file) {
        look(file);
        boolean was = now[file].there;
        now[file] = new Content();
        low[file] = 0;
        return was;
    }

    int twin(int from, int to) {
        look(from);
        look(to);
        if (!now[from].there) {
            throw new NoSuchElementException();
        }
        now[to] = now[from].same();
        low[to] = 0;
        return now[to].size;
    }

    int sync(int file) {
        look(file);
        int fresh = 0;
        for (int[] page : now[file].row) {
            fresh += has(synced[file], page) ? 0 : 1;
        }
        synced[file] = now[file].same();
        low[file] = now[file].size;
        return fresh;
    }

    int crash(int file, int keep) {
        look(file);
        if (keep < 0) {
            throw new IllegalArgumentException();
        }
        long left = (long) low[file] + keep - 1;
        if (keep == 0) {
            now[file] = synced[file].same();
        } else if (now[file].size > left) {
            shorten(file, (int) left);
        }
        sync(file);
        return now[file].size;
    }

    int crashAll(long row) {
        for (int i = 0; i < 16; i++) {
            row = row * 6364136223846793005L + 1442695040888963407L;
            long bits = (row >>> 33) % (1L << 20);
            crash(i, row >= 0 && row < (1L << 61) ? 0 : (int) (bits % (2L * (now[i].size - low[i]) + 1)) + 1);
        }
        return count(4);
    }

    int file(int file, int what) {
        look(file);
        int shared = 0;
        for (int[] page : now[file].row) {
            shared += what == 7 && rowsWith(page) > 1 ? 1 : 0;
        }
        int[] answers = {now[file].size, synced[file].size, low[file], now[file].there ? 1 : 0,
            synced[file].there ? 1 : 0, now[file].row.size(), synced[file].row.size(), shared};
        if (what < 0 || what >= answers.length) {
            throw new IndexOutOfBoundsException();
        }
        return answers[what];
    }

    int byteAt(int file, boolean ofSynced, int i) {
        look(file);
        Content content = ofSynced ? synced[file] : now[file];
        if (i < 0 || i >= content.size) {
            throw new IndexOutOfBoundsException();
        }
        return content.row.get(i / 64)[i % 64];
    }

    int count(int what) {
        int there = 0;
        for (Content content : now) {
            there += content.there ? 1 : 0;
        }
        return what == 0 ? used() : what == 1 ? pages : what == 2 ? copied : what == 3 ? tape.size()
                : what == 4 ? there : -1;
    }
}
