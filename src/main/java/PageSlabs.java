/**
 * Memory given out in layers: pages in blocks that are halved and joined again, objects of one size
 * in rows of pages, sizes by classes above both; each thing that is given back is looked at first.
 */
public final class PageSlabs {
    public static final int NONE = -1, WILD = -2, TWICE = -3;

    private static final int PAGES = 256;
    private static final int PAGE_BYTES = 64;
    private static final int ADDRESSES = PAGES * PAGE_BYTES;
    private static final int TOP_ORDER = 6;

    private static final int MOST_CACHES = 12;
    private static final int MOST_OBJECT_BYTES = 1024;
    private static final int MOST_ALIGNMENT = 64;
    private static final int TOP_SLAB_ORDER = 4;
    private static final int ENOUGH_OBJECTS = 4;
    /** A slab of one page has 64 objects at most, and a greater one is only made for fewer than eight. */
    private static final int MOST_OBJECTS = 64;

    private static final int SIZE_CACHES = 6;
    private static final int LEAST_SIZE_BYTES = 8;
    private static final int MOST_SIZE_BYTES = 4096;

    private static final int MOST_ARMED = 100;

    /** What a block is used for; a slab of cache c has SLAB + c. These are the answers of ofPage(), too. */
    private static final int FREE = 0, TAKEN = 1, SLAB = 2;

    /** Nothing is wrong with an address; apart from WILD and TWICE. */
    private static final int RIGHT = 0;

    private final Memory memory;
    private final Blocks blocks;
    private final Slab[] slabs;
    private final Cache[] caches;
    private int cacheCount;

    public PageSlabs() {
        memory = new Memory();
        blocks = new Blocks();
        slabs = new Slab[PAGES];
        caches = new Cache[MOST_CACHES];
        for (int i = 0; i < SIZE_CACHES; i++) {
            int bytes = LEAST_SIZE_BYTES << i;
            caches[i] = new Cache(i, bytes, Math.min(bytes, MOST_ALIGNMENT));
        }
        cacheCount = SIZE_CACHES;
    }

    public boolean usable(int from, int to) {
        if (blocks.started || from < 0 || to >= PAGES || from > to) {
            return false;
        }
        blocks.tell(from, to);
        return true;
    }

    public int start() {
        if (blocks.started) {
            return NONE;
        }
        blocks.open();
        return blocks.usablePages;
    }

    public int pages(int order) {
        if (!blocks.started || !isOrder(order)) {
            return NONE;
        }
        return blocks.claim(order, TAKEN);
    }

    public int freePages(int page) {
        int wrong = wrongWithPage(page);
        if (wrong != RIGHT) {
            return wrong;
        }
        int count = 1 << blocks.orderFrom(page);
        blocks.release(page);
        return count;
    }

    public int cache(int size, int align) {
        if (!blocks.started || cacheCount >= MOST_CACHES) {
            return NONE;
        }
        if (size < 1 || size > MOST_OBJECT_BYTES || !isAlignment(align)) {
            return NONE;
        }
        int number = cacheCount;
        caches[number] = new Cache(number, size, align);
        cacheCount++;
        return number;
    }

    public int take(int cache) {
        Cache from = cacheOf(cache);
        if (from == null || !blocks.started) {
            return NONE;
        }
        return takeObject(from);
    }

    public int give(int cache, int address) {
        Cache to = cacheOf(cache);
        if (to == null) {
            return WILD;
        }
        int wrong = wrongWithObject(to, address);
        return wrong != RIGHT ? wrong : giveObject(to, address);
    }

    public int shrink(int cache) {
        Cache of = cacheOf(cache);
        if (of == null) {
            return NONE;
        }
        int page = of.emptyPage;
        if (page == NONE) {
            return 0;
        }
        of.emptyPage = NONE;
        dropSlab(of, page);
        return 1 << of.slabOrder;
    }

    public int alloc(int bytes) {
        if (!blocks.started || !isBySize(bytes)) {
            return NONE;
        }
        return takeKind(kindFor(bytes));
    }

    public int free(int address) {
        int wrong = wrongBySize(address);
        if (wrong != RIGHT) {
            return wrong;
        }
        int bytes = bytesOfKind(kindAt(address));
        giveBySize(address);
        return bytes;
    }

    public int resize(int address, int bytes) {
        int wrong = wrongBySize(address);
        if (wrong != RIGHT) {
            return wrong;
        }
        if (!isBySize(bytes)) {
            return NONE;
        }
        int had = kindAt(address);
        int wanted = kindFor(bytes);
        if (had == wanted) {
            return address;
        }
        int moved = takeKind(wanted);
        if (moved == NONE) {
            return NONE;
        }
        memory.copy(address, moved, Math.min(bytesOfKind(had), bytes));
        giveBySize(address);
        return moved;
    }

    public int size(int address) {
        int wrong = wrongBySize(address);
        return wrong != RIGHT ? wrong : bytesOfKind(kindAt(address));
    }

    public int read(int address) {
        return isAddress(address) ? memory.get(address) : NONE;
    }

    public int write(int address, int v) {
        if (!isAddress(address)) {
            return NONE;
        }
        int before = memory.get(address);
        memory.put(address, v);
        return before;
    }

    public boolean arm(int n) {
        if (n < 0 || n > MOST_ARMED) {
            return false;
        }
        blocks.armed = n;
        return true;
    }

    public int ofPage(int page) {
        if (!isPage(page)) {
            return -2;
        }
        int first = blocks.firstOf(page);
        return first == NONE ? -1 : blocks.useFrom(first);
    }

    public int block(int page) {
        return blocks.firstOf(page);
    }

    public int order(int page) {
        return blocks.orderFrom(blocks.firstOf(page));
    }

    public int freeBlocks(int order) {
        return isOrder(order) ? blocks.freeCounts[order] : NONE;
    }

    public int ofCache(int cache, int what) {
        Cache of = cacheOf(cache);
        return of == null ? NONE : of.figure(what);
    }

    public int count(int what) {
        switch (what) {
            case 0: return blocks.usablePages;
            case 1: return blocks.freePageCount;
            case 2: return blocks.misses;
            case 3: return blocks.claims;
            case 4: return blocks.releases;
            case 5: return liveObjects();
            case 6: return cacheCount;
            case 7: return blocks.mostInUse;
            case 8: return blocks.armed;
            default: return NONE;
        }
    }

    private static boolean isPage(int page) {
        return page >= 0 && page < PAGES;
    }

    private static boolean isAddress(int address) {
        return address >= 0 && address < ADDRESSES;
    }

    private static boolean isOrder(int order) {
        return order >= 0 && order <= TOP_ORDER;
    }

    private static boolean isAlignment(int align) {
        return align >= 1 && align <= MOST_ALIGNMENT && Integer.bitCount(align) == 1;
    }

    private static boolean isBySize(int bytes) {
        return bytes >= 1 && bytes <= MOST_SIZE_BYTES;
    }

    private Cache cacheOf(int number) {
        return number >= 0 && number < cacheCount && number < MOST_CACHES ? caches[number] : null;
    }

    private Slab slabAt(int page) {
        return isPage(page) ? slabs[page] : null;
    }

    private int liveObjects() {
        int live = 0;
        for (int i = 0; i < MOST_CACHES; i++) {
            Cache cache = cacheOf(i);
            live += cache == null ? 0 : cache.live;
        }
        return live;
    }

    // What is wrong with a thing that is given back.

    private int wrongWithPage(int page) {
        int use = blocks.useFrom(page);
        if (use == FREE) {
            return TWICE;
        }
        return use == TAKEN ? RIGHT : WILD;
    }

    private int wrongWithObject(Cache cache, int address) {
        if (!isAddress(address)) {
            return WILD;
        }
        int page = blocks.firstOf(address / PAGE_BYTES);
        Slab slab = slabAt(page);
        if (slab == null || blocks.useFrom(page) != cache.use) {
            return WILD;
        }
        int index = cache.indexAt(address - page * PAGE_BYTES);
        if (index == NONE) {
            return WILD;
        }
        return slab.isLive(index) ? RIGHT : TWICE;
    }

    private int wrongBySize(int address) {
        if (!isAddress(address)) {
            return WILD;
        }
        int page = address / PAGE_BYTES;
        int use = blocks.useFrom(blocks.firstOf(page));
        if (use >= SLAB) {
            Cache cache = use < SLAB + SIZE_CACHES ? cacheOf(use - SLAB) : null;
            return cache == null ? WILD : wrongWithObject(cache, address);
        }
        return address % PAGE_BYTES == 0 ? wrongWithPage(page) : WILD;
    }

    // Objects of a cache, in slabs.

    private int takeObject(Cache cache) {
        int page = partlyLiveSlab(cache);
        if (page == NONE) {
            page = cache.emptyPage;
        }
        if (page == NONE) {
            page = newSlab(cache);
        }
        Slab slab = slabAt(page);
        int index = slab == null ? NONE : slab.takeFront();
        if (index == NONE) {
            return NONE;
        }
        if (page == cache.emptyPage) {
            cache.emptyPage = NONE;
        }
        cache.live++;
        return page * PAGE_BYTES + index * cache.stride;
    }

    private int partlyLiveSlab(Cache cache) {
        for (int page = 0; page < PAGES; page++) {
            Slab slab = slabs[page];
            if (slab != null && blocks.useFrom(page) == cache.use && slab.isPartlyLive()) {
                return page;
            }
        }
        return NONE;
    }

    private int newSlab(Cache cache) {
        int page = blocks.claim(cache.slabOrder, cache.use);
        if (!isPage(page)) {
            return NONE;
        }
        Slab slab = slabs[page];
        if (slab == null) {
            slab = new Slab();
            slabs[page] = slab;
        }
        slab.layOut(cache.objects);
        cache.slabCount++;
        return page;
    }

    /** Gives back an object with which nothing is wrong; answers how many its slab has that are live yet. */
    private int giveObject(Cache cache, int address) {
        int page = blocks.firstOf(address / PAGE_BYTES);
        Slab slab = slabAt(page);
        if (slab == null) {
            return WILD;
        }
        slab.putFront(cache.indexAt(address - page * PAGE_BYTES));
        cache.live--;
        int live = slab.liveCount();
        if (live == 0 && cache.emptyPage == NONE) {
            cache.emptyPage = page;
        } else if (live == 0) {
            dropSlab(cache, page);
        }
        return live;
    }

    private void dropSlab(Cache cache, int page) {
        cache.slabCount--;
        blocks.release(page);
    }

    // By size. A KIND is what stays the same where a resize stays: below SIZE_CACHES the number of
    // the cache, from there on the order of a block.

    /** The blocks that are no greater than the caches' objects are too small where those are. */
    private static int kindFor(int bytes) {
        int kind = 0;
        while (kind < SIZE_CACHES + TOP_ORDER && bytesOfKind(kind) < bytes) {
            kind++;
        }
        return kind;
    }

    private static int bytesOfKind(int kind) {
        return kind < SIZE_CACHES ? LEAST_SIZE_BYTES << kind : PAGE_BYTES << (kind - SIZE_CACHES);
    }

    /** The kind of what was taken at an address with which nothing is wrong. */
    private int kindAt(int address) {
        int page = blocks.firstOf(address / PAGE_BYTES);
        int use = blocks.useFrom(page);
        return use >= SLAB ? use - SLAB : SIZE_CACHES + blocks.orderFrom(page);
    }

    private int takeKind(int kind) {
        if (kind < SIZE_CACHES) {
            Cache cache = cacheOf(kind);
            return cache == null ? NONE : takeObject(cache);
        }
        int page = blocks.claim(kind - SIZE_CACHES, TAKEN);
        return page == NONE ? NONE : page * PAGE_BYTES;
    }

    /** Gives back what is at an address with which nothing is wrong. */
    private void giveBySize(int address) {
        int kind = kindAt(address);
        Cache cache = kind < SIZE_CACHES ? cacheOf(kind) : null;
        if (cache == null) {
            blocks.release(address / PAGE_BYTES);
        } else {
            giveObject(cache, address);
        }
    }

    /** The bytes, eight in a word: a run may make many objects, and their elements are counted. */
    private static final class Memory {
        private static final int WORD_BYTES = 8;

        private final long[] words = new long[ADDRESSES / WORD_BYTES];

        int get(int address) {
            return (int) (words[address / WORD_BYTES] >>> shiftOf(address)) & 0xFF;
        }

        void put(int address, int v) {
            int shift = shiftOf(address);
            long others = words[address / WORD_BYTES] & ~(0xFFL << shift);
            words[address / WORD_BYTES] = others | ((v & 0xFFL) << shift);
        }

        /** What is taken by size begins at a word, so whole words can go at once. */
        void copy(int from, int to, int bytes) {
            int whole = bytes / WORD_BYTES;
            System.arraycopy(words, from / WORD_BYTES, words, to / WORD_BYTES, whole);
            for (int i = whole * WORD_BYTES; i < bytes; i++) {
                put(to + i, get(from + i));
            }
        }

        private static int shiftOf(int address) {
            return address % WORD_BYTES * 8;
        }
    }

    /** The pages, as blocks; nothing is a block before they are opened. */
    private static final class Blocks {
        private final boolean[] told = new boolean[PAGES];
        /** Where a block begins, its order and 1 more; 0 elsewhere, so that a new row needs no filling. */
        private final int[] orders = new int[PAGES];
        private final int[] uses = new int[PAGES];
        final int[] freeCounts = new int[TOP_ORDER + 1];
        boolean started;
        int usablePages;
        int freePageCount;
        int mostInUse;
        int misses;
        int claims;
        int releases;
        int armed = NONE;

        void tell(int from, int to) {
            for (int page = from; page <= to; page++) {
                if (!told[page]) {
                    told[page] = true;
                    usablePages++;
                }
            }
        }

        /** Page by page: joining makes the greatest blocks that are wholly usable. */
        void open() {
            started = true;
            for (int page = 0; page < PAGES; page++) {
                if (told[page]) {
                    join(page, 0);
                }
            }
            freePageCount = usablePages;
        }

        /** The first page of the block that a page belongs to, or NONE. */
        int firstOf(int page) {
            if (!isPage(page)) {
                return NONE;
            }
            for (int order = 0; order <= TOP_ORDER; order++) {
                int first = page & -(1 << order);
                if (orders[first] == order + 1) {
                    return first;
                }
            }
            return NONE;
        }

        /** The order of the block that begins at a page, or NONE. */
        int orderFrom(int page) {
            return isPage(page) ? orders[page] - 1 : NONE;
        }

        /** The use of the block that begins at a page, or NONE. */
        int useFrom(int page) {
            return isPage(page) && orders[page] != 0 ? uses[page] : NONE;
        }

        /** Takes a block: its first page, or NONE if it is missed. */
        int claim(int order, int use) {
            boolean refused = armed == 0;
            if (armed != NONE) {
                armed--;
            }
            int page = refused ? NONE : leastFree(order);
            if (page == NONE) {
                misses++;
                return NONE;
            }
            halve(page, order);
            uses[page] = use;
            claims++;
            freePageCount -= 1 << order;
            mostInUse = Math.max(mostInUse, usablePages - freePageCount);
            return page;
        }

        /** Gives back the block that begins at a page. */
        void release(int page) {
            int order = orderFrom(page);
            if (order == NONE) {
                return;
            }
            releases++;
            freePageCount += 1 << order;
            join(page, order);
        }

        private int leastFree(int atLeast) {
            int order = atLeast;
            while (order < TOP_ORDER && freeCounts[order] == 0) {
                order++;
            }
            for (int page = 0; page < PAGES; page++) {
                if (isFree(page, order)) {
                    return page;
                }
            }
            return NONE;
        }

        private boolean isFree(int page, int order) {
            return orders[page] == order + 1 && uses[page] == FREE;
        }

        /** Takes the free block at a page out of the free ones, but for the second halves. */
        private void halve(int page, int order) {
            int had = orders[page] - 1;
            freeCounts[had]--;
            for (int half = had - 1; half >= order; half--) {
                layFree(page + (1 << half), half);
            }
            orders[page] = order + 1;
        }

        private void join(int page, int order) {
            int first = page;
            int joined = order;
            while (joined < TOP_ORDER && isFree(buddyOf(first, joined), joined)) {
                int buddy = buddyOf(first, joined);
                freeCounts[joined]--;
                orders[first] = 0;
                orders[buddy] = 0;
                first = Math.min(first, buddy);
                joined++;
            }
            layFree(first, joined);
        }

        private static int buddyOf(int page, int order) {
            return page ^ (1 << order);
        }

        private void layFree(int page, int order) {
            orders[page] = order + 1;
            uses[page] = FREE;
            freeCounts[order]++;
        }
    }

    /** A cache: how its slabs are laid out, and what it has of them. */
    private static final class Cache {
        /** What the blocks of its slabs are used for. */
        final int use;
        final int bytes;
        final int alignment;
        final int stride;
        final int slabOrder;
        final int objects;
        int slabCount;
        int live;
        int emptyPage = NONE;

        Cache(int number, int bytes, int alignment) {
            this.use = SLAB + number;
            this.bytes = bytes;
            this.alignment = alignment;
            this.stride = (bytes + alignment - 1) & -alignment;
            this.slabOrder = orderFor(this.stride);
            this.objects = objectsIn(this.slabOrder, this.stride);
        }

        private static int orderFor(int stride) {
            int order = 0;
            while (order < TOP_SLAB_ORDER && objectsIn(order, stride) < ENOUGH_OBJECTS) {
                order++;
            }
            return order;
        }

        private static int objectsIn(int order, int stride) {
            return stride < 1 ? 0 : (PAGE_BYTES << order) / stride;
        }

        /** Which object begins so far behind the slab's beginning, or NONE. */
        int indexAt(int offset) {
            if (stride < 1 || offset < 0 || offset % stride != 0) {
                return NONE;
            }
            int index = offset / stride;
            return index < objects ? index : NONE;
        }

        int figure(int what) {
            switch (what) {
                case 0: return bytes;
                case 1: return alignment;
                case 2: return stride;
                case 3: return slabOrder;
                case 4: return objects;
                case 5: return slabCount;
                case 6: return live;
                case 7: return emptyPage;
                default: return NONE;
            }
        }
    }

    /** The objects of one slab. It is kept for the next slab that begins at the same page. */
    private static final class Slab {
        /** The free ones: the row's front is the last of the first freeCount. */
        private final int[] row = new int[MOST_OBJECTS];
        private int freeCount;
        private int objects;
        /** A bit for each object, set if it is live. */
        private long live;

        void layOut(int count) {
            objects = Math.min(count, MOST_OBJECTS);
            freeCount = objects;
            live = 0;
            for (int i = 0; i < objects; i++) {
                row[i] = objects - 1 - i;
            }
        }

        boolean isLive(int index) {
            return ((live >>> index) & 1) != 0;
        }

        int liveCount() {
            return objects - freeCount;
        }

        boolean isPartlyLive() {
            return freeCount > 0 && freeCount < objects;
        }

        /** Takes the front of the row, or answers NONE where nothing is free. */
        int takeFront() {
            if (freeCount < 1) {
                return NONE;
            }
            freeCount--;
            int index = row[freeCount];
            live |= 1L << index;
            return index;
        }

        void putFront(int index) {
            if (index < 0 || index >= objects || freeCount >= objects) {
                return;
            }
            row[freeCount] = index;
            freeCount++;
            live &= ~(1L << index);
        }
    }
}
