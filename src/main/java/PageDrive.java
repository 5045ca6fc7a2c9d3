import java.util.NoSuchElementException;

/**
 * A disk in own memory for a server that may crash: files of pages out of one pool, shared between
 * what a file is now, what of it was synced, and its twins, and copied when they are written.
 */
public final class PageDrive {
    /** Nothing there. */
    public static final int NONE = -1;

    private static final int FILES = 16;
    private static final int PAGE_BYTES = 64;
    private static final int FEWEST_PAGES = 4;
    private static final int MOST_PAGES = 1024;
    private static final int MOST_IN_ROW = 400;
    private static final int MOST_ON_TAPE = 4096;
    private static final int MOST_FED = 8;
    private static final int MOST_TIMES = 16;
    private static final long DRAW_FACTOR = 6364136223846793005L;
    private static final long DRAW_STEP = 1442695040888963407L;
    private static final int DRAW_TOP_SHIFT = 61;
    private static final int DRAW_KEEP_SHIFT = 33;
    private static final long DRAW_KEEP_MASK = (1L << 20) - 1;

    private final Pool pool;
    private final Entry[] entries;
    private final byte[] tape;
    private int taped;

    public PageDrive(int pages) {
        pool = new Pool(Math.max(FEWEST_PAGES, Math.min(MOST_PAGES, pages)));
        entries = new Entry[FILES];
        for (int i = 0; i < FILES; i++) {
            entries[i] = new Entry();
        }
        tape = new byte[MOST_ON_TAPE];
        taped = 0;
    }

    public int feed(long eight, int n) throws IllegalArgumentException, IllegalStateException {
        if (n < 1 || n > MOST_FED) {
            throw new IllegalArgumentException("not 1 to 8 bytes");
        }
        if (taped + n > MOST_ON_TAPE) {
            throw new IllegalStateException("the tape has no place for these bytes");
        }
        for (int i = 0; i < n; i++) {
            tape[taped + i] = (byte) (eight >>> (8 * i));
        }
        taped += n;
        return taped;
    }

    public int append(int file, int times) throws IndexOutOfBoundsException, UnsupportedOperationException {
        if (!isFile(file) || times < 1 || times > MOST_TIMES) {
            throw new IndexOutOfBoundsException("no such file, or not 1 to 16 times");
        }
        int fed = taped;
        // Emptied before the room is looked at: the tape is lost when it does not fit, too.
        taped = 0;
        Content now = entries[file].now;
        int before = now.size;
        int after = before + fed * times;
        if (!hasRoom(now, after)) {
            throw new UnsupportedOperationException("not enough pages for these bytes");
        }
        grow(now, after);
        writeTape(now, before, fed, times);
        return after;
    }

    public int cut(int file, int size)
            throws IndexOutOfBoundsException, NoSuchElementException, IllegalArgumentException {
        if (!isFile(file)) {
            throw new IndexOutOfBoundsException("no such file number");
        }
        Entry entry = entries[file];
        if (!entry.now.there) {
            throw new NoSuchElementException("the file is not there");
        }
        int before = entry.now.size;
        if (size < 0 || size > before) {
            throw new IllegalArgumentException("not 0 to the file's size");
        }
        shorten(entry.now, size);
        entry.low = Math.min(entry.low, size);
        return before;
    }

    public boolean remove(int file) throws IndexOutOfBoundsException {
        if (!isFile(file)) {
            throw new IndexOutOfBoundsException("no such file number");
        }
        Entry entry = entries[file];
        boolean was = entry.now.there;
        shorten(entry.now, 0);
        entry.now.there = false;
        entry.low = 0;
        return was;
    }

    public int twin(int from, int to) throws IndexOutOfBoundsException, NoSuchElementException {
        if (!isFile(from) || !isFile(to)) {
            throw new IndexOutOfBoundsException("no such file number");
        }
        if (!entries[from].now.there) {
            throw new NoSuchElementException("the file is not there");
        }
        Entry entry = entries[to];
        become(entry.now, entries[from].now);
        entry.low = 0;
        return entry.now.size;
    }

    public int sync(int file) throws IndexOutOfBoundsException {
        if (!isFile(file)) {
            throw new IndexOutOfBoundsException("no such file number");
        }
        Entry entry = entries[file];
        int unsynced = pagesNotIn(entry.synced, entry.now);
        settle(entry);
        return unsynced;
    }

    public int crash(int file, int keep) throws IndexOutOfBoundsException, IllegalArgumentException {
        if (!isFile(file)) {
            throw new IndexOutOfBoundsException("no such file number");
        }
        if (keep < 0) {
            throw new IllegalArgumentException("keep is below 0");
        }
        fall(entries[file], keep);
        return entries[file].now.size;
    }

    public int crashAll(long row) {
        long drawn = row;
        for (int i = 0; i < FILES; i++) {
            drawn = drawn * DRAW_FACTOR + DRAW_STEP;
            fall(entries[i], keepOf(drawn, entries[i]));
        }
        return filesThere();
    }

    public int file(int file, int what) throws IndexOutOfBoundsException {
        if (!isFile(file) || what < 0 || what > 7) {
            throw new IndexOutOfBoundsException("no such file number, or nothing to be asked of it");
        }
        Entry entry = entries[file];
        switch (what) {
            case 0:
                return entry.now.size;
            case 1:
                return entry.synced.size;
            case 2:
                return entry.low;
            case 3:
                return entry.now.there ? 1 : 0;
            case 4:
                return entry.synced.there ? 1 : 0;
            case 5:
                return pagesFor(entry.now.size);
            case 6:
                return pagesFor(entry.synced.size);
            default:
                return sharedPages(entry.now);
        }
    }

    public int byteAt(int file, boolean synced, int i) throws IndexOutOfBoundsException {
        if (!isFile(file)) {
            throw new IndexOutOfBoundsException("no such file number");
        }
        Content content = synced ? entries[file].synced : entries[file].now;
        if (i < 0 || i >= content.size) {
            throw new IndexOutOfBoundsException("no such byte");
        }
        return pool.bytes[content.placeOf(i)] & 0xFF;
    }

    public int count(int what) {
        switch (what) {
            case 0:
                return pool.pages - pool.unusedCount;
            case 1:
                return pool.pages;
            case 2:
                return pool.copied;
            case 3:
                return taped;
            case 4:
                return filesThere();
            default:
                return NONE;
        }
    }

    private static boolean isFile(int file) {
        return file >= 0 && file < FILES;
    }

    private static int pagesFor(int size) {
        return (size + PAGE_BYTES - 1) / PAGE_BYTES;
    }

    private int filesThere() {
        int there = 0;
        for (int i = 0; i < FILES; i++) {
            if (entries[i].now.there) {
                there++;
            }
        }
        return there;
    }

    private boolean hasRoom(Content now, int after) {
        int needed = pagesFor(after) - pagesFor(now.size) + (mustCopyLast(now, after) ? 1 : 0);
        return pagesFor(after) <= MOST_IN_ROW && needed <= pool.unusedCount;
    }

    /** Without a byte to come the last page is not written, so it stays shared. */
    private boolean mustCopyLast(Content now, int after) {
        return after > now.size && now.size % PAGE_BYTES != 0
                && pool.isShared(now.row[now.size / PAGE_BYTES]);
    }

    /** Only behind hasRoom: it takes as many pages as were counted there. */
    private void grow(Content now, int after) {
        if (mustCopyLast(now, after)) {
            int last = now.size / PAGE_BYTES;
            now.row[last] = pool.exchangeForCopy(now.row[last]);
        }
        for (int k = pagesFor(now.size); k < pagesFor(after); k++) {
            now.row[k] = pool.take();
        }
        now.size = after;
        now.there = true;
    }

    private void writeTape(Content now, int from, int fed, int times) {
        int i = from;
        for (int t = 0; t < times; t++) {
            for (int k = 0; k < fed; k++) {
                pool.bytes[now.placeOf(i)] = tape[k];
                i++;
            }
        }
    }

    private void shorten(Content content, int size) {
        for (int k = pagesFor(size); k < pagesFor(content.size); k++) {
            pool.leave(content.row[k]);
        }
        content.size = size;
    }

    private void become(Content content, Content model) {
        if (content == model) {
            return;
        }
        int pages = pagesFor(model.size);
        // Joined before the old ones are left: a page that is in both rows must not come free between.
        for (int k = 0; k < pages; k++) {
            pool.join(model.row[k]);
        }
        shorten(content, 0);
        System.arraycopy(model.row, 0, content.row, 0, pages);
        content.size = model.size;
        content.there = model.there;
    }

    /** The one place where NOW and SYNCED become the same, so the one where LOW starts anew. */
    private void settle(Entry entry) {
        become(entry.synced, entry.now);
        entry.low = entry.now.size;
    }

    private void fall(Entry entry, int keep) {
        if (keep == 0) {
            become(entry.now, entry.synced);
        } else if (entry.now.size - entry.low > keep - 1) {
            // Compared by differences: LOW + keep would overflow for the greatest keeps.
            shorten(entry.now, entry.low + keep - 1);
        }
        settle(entry);
    }

    private static int keepOf(long drawn, Entry entry) {
        if (drawn >>> DRAW_TOP_SHIFT == 0) {
            return 0;
        }
        int bits = (int) ((drawn >>> DRAW_KEEP_SHIFT) & DRAW_KEEP_MASK);
        int keeps = Math.max(1, 2 * (entry.now.size - entry.low) + 1);
        return 1 + bits % keeps;
    }

    /** A page has one place in all rows that it is in, so the rows are compared place by place. */
    private static int pagesNotIn(Content old, Content content) {
        int oldPages = pagesFor(old.size);
        int missing = 0;
        for (int k = 0; k < pagesFor(content.size); k++) {
            if (k >= oldPages || content.row[k] != old.row[k]) {
                missing++;
            }
        }
        return missing;
    }

    private int sharedPages(Content content) {
        int shared = 0;
        for (int k = 0; k < pagesFor(content.size); k++) {
            if (pool.isShared(content.row[k])) {
                shared++;
            }
        }
        return shared;
    }

    /** A file by its number, there or not. */
    private static final class Entry {
        final Content now = new Content();
        final Content synced = new Content();
        int low = 0;
    }

    /** What a file is or was: only the first pages of the row, as many as the size needs, count. */
    private static final class Content {
        final int[] row = new int[MOST_IN_ROW];
        int size = 0;
        boolean there = false;

        int placeOf(int i) {
            return row[i / PAGE_BYTES] * PAGE_BYTES + i % PAGE_BYTES;
        }
    }

    /** All pages: the bytes of each, in how many rows it is, and which of them are in none. */
    private static final class Pool {
        final int pages;
        final byte[] bytes;
        final int[] rowsWith;
        final int[] unused;
        int unusedCount;
        int copied;

        Pool(int pages) {
            this.pages = pages;
            bytes = new byte[pages * PAGE_BYTES];
            rowsWith = new int[pages];
            unused = new int[pages];
            for (int i = 0; i < pages; i++) {
                unused[i] = i;
            }
            unusedCount = pages;
            copied = 0;
        }

        boolean isShared(int page) {
            return rowsWith[page] > 1;
        }

        /** Only when one is unused. */
        int take() {
            unusedCount--;
            int page = unused[unusedCount];
            rowsWith[page] = 1;
            return page;
        }

        void join(int page) {
            rowsWith[page]++;
        }

        void leave(int page) {
            rowsWith[page]--;
            if (rowsWith[page] == 0) {
                unused[unusedCount] = page;
                unusedCount++;
            }
        }

        /** Only when one is unused. */
        int exchangeForCopy(int page) {
            int copy = take();
            System.arraycopy(bytes, page * PAGE_BYTES, bytes, copy * PAGE_BYTES, PAGE_BYTES);
            leave(page);
            copied++;
            return copy;
        }
    }
}
