/** Each promise of the document by hand: ordinary inputs, the edges that it names, wrong inputs. */
public final class PromisesTest {
    private static final int NONE = PageSlabs.NONE, WILD = PageSlabs.WILD, TWICE = PageSlabs.TWICE;
    private static final int[] ODD = {Integer.MIN_VALUE, Integer.MIN_VALUE + 1, -65, -1, 16384, 1 << 20, 1 << 30, Integer.MAX_VALUE};

    private static final Check check = new Check();

    public static void main(String[] args) {
        newObject();
        usable();
        start();
        pages();
        freePages();
        cache();
        take();
        give();
        shrink();
        alloc();
        free();
        resize();
        resizeBytes();
        size();
        read();
        write();
        arm();
        ofPage();
        block();
        order();
        freeBlocks();
        ofCache();
        count();
        beforeStart();
        check.end();
    }

    private static Run started(int from, int to) {
        return new Run(check).usable(from, to, true).start(to - from + 1);
    }

    private static void newObject() {
        check.in("promise 1");
        check.due("NONE", NONE, -1);
        check.due("WILD", WILD, -2);
        check.due("TWICE", TWICE, -3);
        Run x = new Run(check);
        x.counts(0, 0, 0, 0, 0, 0, 6, 0, NONE);
        x.frees(0, 0, 0, 0, 0, 0, 0);
        for (int page = 0; page < 256; page++) {
            x.ofPage(page, -1);
        }
        x.start(0);
        x.pages(0, NONE);
        x.counts(0, 0, 1, 0, 0, 0, 6, 0, NONE);
        Run other = started(0, 3);
        other.pages(2, 0);
        x.count(0, 0); // the first one is as it was
        x.ofPage(0, -1); // the first one is as it was
    }

    private static void usable() {
        check.in("promise 2");
        Run x = new Run(check);
        x.usable(-1, 0, false);
        x.usable(0, 256, false);
        x.usable(256, 256, false);
        x.usable(1, 0, false);
        x.usable(0, -1, false);
        for (int odd : ODD) {
            x.usable(odd, 9, false);
            x.usable(9, odd, false);
            x.usable(odd, odd, false);
        }
        x.count(0, 0);
        x.usable(0, 0, true);
        x.usable(255, 255, true);
        x.usable(10, 20, true);
        x.usable(15, 25, true);
        x.usable(12, 13, true);
        x.count(0, 18);
        x.start(18);
        x.usable(1, 1, false);
        x.usable(10, 10, false);
        x.count(0, 18);
        x.ofPage(1, -1);
        x.ofPage(9, -1);
        x.ofPage(10, 0);
        x.ofPage(25, 0);
        x.ofPage(26, -1);
    }

    private static void start() {
        check.in("promise 3");
        Run all = started(0, 255);
        all.start(NONE); // again
        all.frees(0, 0, 0, 0, 0, 0, 4);
        all.counts(256, 256, 0, 0, 0, 0, 6, 0, NONE);

        Run x = new Run(check);
        x.usable(1, 127, true);
        x.usable(130, 130, true);
        x.usable(129, 129, true);
        x.start(129);
        x.frees(3, 1, 1, 1, 1, 1, 1);
        x.order(1, 0);
        x.order(2, 1);
        x.order(63, 5);
        x.order(64, 6);
        x.order(129, 0);
        x.order(130, 0);
        x.start(NONE); // again
        x.count(1, 129);

        Run none = new Run(check);
        none.start(0); // with nothing usable
        none.start(NONE); // again
        none.usable(0, 0, false);
    }

    private static void pages() {
        check.in("promise 4");
        Run x = started(2, 44);
        x.pages(-1, NONE);
        x.pages(7, NONE);
        for (int odd : ODD) {
            x.pages(odd, NONE);
        }
        x.count(2, 0);
        x.pages(5, NONE);
        x.pages(6, NONE);
        x.count(2, 2);
        x.pages(0, 44); // the least order
        x.pages(0, 2); // the next order
        x.pages(2, 4); // the least page
        x.pages(2, 40);
        x.pages(2, 8); // halved
        x.frees(1, 0, 1, 1, 1, 0, 0);
        x.order(12, 2);
        x.pages(1, 12); // halved
        x.pages(4, 16);
        x.pages(4, NONE);
        x.counts(43, 11, 3, 7, 0, 0, 6, 32, NONE);

        Run one = started(64, 127);
        one.pages(0, 64);
        one.frees(1, 1, 1, 1, 1, 1, 0);
        one.block(65, 65);
        one.block(67, 66);
        one.block(96, 96);
        one.order(127, 5);
        one.pages(6, NONE);
        one.pages(5, 96);
    }

    private static void freePages() {
        check.in("promise 5");
        Run x = started(0, 127);
        x.freePages(0, TWICE); // freePages of a free block
        x.freePages(64, TWICE); // freePages of a free block
        x.freePages(32, WILD); // freePages within a free block
        x.freePages(128, WILD); // freePages of an unusable page
        x.freePages(256, WILD);
        for (int odd : ODD) {
            x.freePages(odd, WILD);
        }
        x.pages(3, 0);
        x.pages(3, 8);
        x.pages(6, 64);
        x.freePages(4, WILD);
        x.freePages(0, 8);
        x.frees(0, 0, 0, 1, 1, 1, 0);
        x.freePages(0, TWICE);
        x.freePages(8, 8);
        x.frees(0, 0, 0, 0, 0, 0, 1);
        x.freePages(8, WILD); // within the joined one
        x.freePages(64, 64);
        x.frees(0, 0, 0, 0, 0, 0, 2);
        x.take(0, 0);
        x.freePages(0, WILD); // freePages of a slab
        x.give(0, 0, 0);
        x.freePages(0, WILD); // freePages of an empty slab
        x.alloc(257, 512);
        x.freePages(8, 8); // freePages of what alloc took
        x.counts(128, 127, 0, 5, 4, 0, 6, 80, NONE);
        joinsOnlyTheSameOrder();
    }

    private static void joinsOnlyTheSameOrder() {
        Run x = started(0, 3);
        x.pages(0, 0);
        x.pages(0, 1);
        x.pages(0, 2);
        x.pages(0, 3);
        x.freePages(1, 1);
        x.freePages(2, 1);
        x.frees(2, 0, 0);
        x.freePages(3, 1);
        x.frees(1, 1, 0);
        x.block(3, 2);
        x.freePages(0, 1);
        x.frees(0, 0, 1, 0);
        Run part = started(0, 2);
        part.pages(1, 0);
        part.freePages(0, 2);
        part.frees(1, 1, 0);
    }

    private static void cache() {
        check.in("promise 6");
        Run x = new Run(check);
        x.usable(0, 255, true);
        x.cache(8, 8, NONE); // cache before the start
        x.count(6, 6);
        x.start(256);
        x.cache(0, 1, NONE);
        x.cache(1025, 1, NONE);
        int[] alignments = {0, -1, -2, -64, 3, 5, 6, 7, 12, 24, 48, 63, 65, 96, 128};
        for (int align : alignments) {
            x.cache(8, align, NONE);
        }
        for (int odd : ODD) {
            x.cache(odd, 1, NONE);
            x.cache(1, odd, NONE);
        }
        x.cache(1, 1, 6);
        x.cache(1024, 64, 7);
        x.cache(17, 2, 8);
        x.cache(17, 4, 9);
        x.cache(200, 32, 10);
        x.cache(300, 8, 11);
        x.cache(8, 8, NONE); // the 13th
        x.count(6, 12);
        x.figures(6, 1, 1, 1, 0, 64, 0, 0, NONE);
        x.figures(7, 1024, 64, 1024, 4, 1, 0, 0, NONE);
        x.figures(8, 17, 2, 18, 1, 7, 0, 0, NONE);
        x.figures(9, 17, 4, 20, 1, 6, 0, 0, NONE);
        x.figures(10, 200, 32, 224, 4, 4, 0, 0, NONE);
        x.figures(11, 300, 8, 304, 4, 3, 0, 0, NONE);
        x.count(3, 0);
    }

    private static void take() {
        check.in("promise 7");
        Run x = started(4, 13);
        x.take(-1, NONE);
        x.take(6, NONE);
        x.take(12, NONE);
        for (int odd : ODD) {
            x.take(odd, NONE);
        }
        x.takes(1, 768, 784, 800, 816);
        x.takes(1, 832);
        x.count(3, 2);
        x.give(1, 784, 3); // give back to the full one
        x.takes(1, 784);
        x.takes(1, 848);
        rowOfASlab();
        partlyLiveBeforeEmpty();
        missedObject();
        greatestSlab();
    }

    private static void rowOfASlab() {
        Run x = started(0, 15);
        x.takes(0, 0, 8, 16, 24);
        x.give(0, 8, 3);
        x.give(0, 0, 2);
        x.give(0, 24, 1);
        x.takes(0, 24, 0, 8, 32, 40, 48, 56, 64);
        for (int address = 0; address < 64; address += 8) {
            x.give(0, address, 7 - address / 8);
        }
        x.ofCache(0, 7, 0); // the empty one
        x.takes(0, 72, 80, 88, 96, 104, 112, 120);
        x.takes(0, 56, 48);
        x.ofCache(0, 7, NONE); // the empty one
        x.give(0, 48, 1);
        x.give(0, 56, 0);
        x.shrink(0, 1);
        x.take(0, 0); // a new slab's row
    }

    private static void partlyLiveBeforeEmpty() {
        Run x = started(0, 15);
        x.takes(1, 0, 16, 32, 48, 64, 80, 96, 112, 128);
        x.give(1, 128, 0);
        x.give(1, 80, 3);
        x.give(1, 48, 3);
        x.takes(1, 48, 80, 128);
        x.count(3, 3);
        for (int address = 0; address < 64; address += 16) {
            x.give(1, address, 3 - address / 16);
        }
        x.ofCache(1, 7, 0); // the empty one
        x.take(1, 144); // live ones first, though of a later page
    }

    private static void missedObject() {
        Run x = started(0, 0);
        x.take(2, NONE);
        x.count(2, 1);
        x.figures(2, 32, 32, 32, 1, 4, 0, 0, NONE);
        x.takes(1, 0, 16, 32, 48, NONE);
        x.counts(1, 0, 2, 1, 0, 4, 6, 1, NONE);
    }

    private static void greatestSlab() {
        Run x = started(16, 63);
        x.cache(1000, 1, 6);
        x.takes(6, 1024, 2048, 3072, NONE);
        x.give(6, 2048, 0);
        x.ofCache(6, 7, 32);
        x.takes(6, 2048, NONE);
    }

    private static void give() {
        check.in("promise 8");
        Run x = started(0, 31);
        x.cache(17, 2, 6);
        x.takes(6, 0, 18, 36);
        x.takes(2, 128);
        for (int odd : ODD) {
            x.give(6, odd, WILD);
            x.give(odd, 0, WILD);
        }
        x.give(7, 0, WILD); // no such cache
        x.give(2, 0, WILD); // of another cache
        x.give(6, 128, WILD); // of another cache
        x.give(6, 19, WILD); // within an object
        x.give(6, 54, TWICE); // a free object
        x.give(6, 108, TWICE); // the last free object
        x.give(6, 126, WILD); // behind the last object
        x.give(6, 256, WILD); // of a free block
        x.pages(0, 4);
        x.give(6, 256, WILD); // of a taken block
        x.give(6, 18, 2);
        x.give(6, 18, TWICE);
        x.give(6, 0, 1);
        x.give(6, 36, 0);
        x.give(6, 36, TWICE); // in the empty one
        x.figures(6, 17, 2, 18, 1, 7, 1, 0, 0);
        x.count(4, 0);
        secondEmptyGoes();
        mostObjects();
    }

    private static void mostObjects() {
        Run x = started(255, 255);
        x.cache(1, 1, 6);
        for (int i = 0; i < 64; i++) {
            x.takes(6, 16320 + i);
        }
        x.takes(6, NONE);
        for (int i = 63; i >= 0; i--) {
            x.give(6, 16320 + i, i);
            x.give(6, 16320 + i, TWICE); // give again
        }
        x.takes(6, 16320, 16321);
    }

    private static void secondEmptyGoes() {
        Run x = started(0, 3);
        x.takes(1, 0, 16, 32, 48, 64);
        x.give(1, 64, 0);
        x.ofCache(1, 7, 1); // the empty one
        for (int address = 0; address < 48; address += 16) {
            x.give(1, address, 3 - address / 16);
        }
        x.give(1, 48, 0); // the last live one
        x.ofCache(1, 7, 1); // the first empty one stays
        x.ofCache(1, 5, 1); // slabs
        x.ofPage(0, 0);
        x.give(1, 0, WILD); // the block went
        x.free(0, TWICE);
        x.counts(4, 3, 0, 2, 1, 0, 6, 2, NONE);
    }

    private static void shrink() {
        check.in("promise 9");
        Run x = started(0, 63);
        x.shrink(-1, NONE);
        x.shrink(6, NONE);
        for (int odd : ODD) {
            x.shrink(odd, NONE);
        }
        x.shrink(4, 0); // without a slab
        x.takes(4, 0);
        x.shrink(4, 0); // with a live one
        x.give(4, 0, 0);
        x.figures(4, 128, 64, 128, 3, 4, 1, 0, 0);
        x.shrink(4, 8);
        x.figures(4, 128, 64, 128, 3, 4, 0, 0, NONE);
        x.shrink(4, 0); // again
        x.frees(0, 0, 0, 0, 0, 0, 1);
        x.counts(64, 64, 0, 1, 1, 0, 6, 8, NONE);
        x.takes(5, 0);
        x.give(5, 0, 0);
        x.shrink(5, 16);
    }

    private static void alloc() {
        check.in("promise 10");
        Run x = started(0, 255);
        x.alloc(0, NONE);
        x.alloc(4097, NONE);
        for (int odd : ODD) {
            x.alloc(odd, NONE);
        }
        x.count(2, 0);
        int[][] edges = {{1, 8}, {8, 8}, {9, 16}, {16, 16}, {17, 32}, {32, 32}, {33, 64}, {64, 64}, {65, 128}, {128, 128},
            {129, 256}, {256, 256}, {257, 512}, {512, 512}, {513, 1024}, {1024, 1024}, {1025, 2048}, {2048, 2048},
            {2049, 4096}, {4096, 4096}};
        for (int[] edge : edges) {
            int address = x.next().alloc(edge[0]);
            boolean small = edge[0] <= 256;
            x.size(address, edge[1]);
            x.ofPage(address / 64, small ? 2 + Integer.numberOfTrailingZeros(edge[1] / 8) : 1);
            x.free(address, edge[1]);
        }
        x.count(5, 0);

        Run few = started(8, 16);
        few.alloc(1, 1024);
        few.alloc(500, 512);
        few.alloc(257, NONE);
        few.alloc(16, NONE);
        few.alloc(8, 1032);
        few.counts(9, 0, 2, 2, 0, 2, 6, 9, NONE);
    }

    private static void free() {
        check.in("promise 11");
        Run x = started(0, 63);
        for (int odd : ODD) {
            x.free(odd, WILD);
        }
        x.free(0, TWICE); // a free block
        x.free(1, WILD); // within its first page
        x.free(64, WILD); // within it
        x.free(4096, WILD); // an unusable page
        x.cache(8, 8, 6);
        x.takes(6, 0, 8);
        x.takes(0, 64, 72);
        x.pages(0, 2);
        x.pages(4, 16);
        x.alloc(4000, NONE);
        x.alloc(513, 2048);
        x.free(0, WILD); // an object of cache 6
        x.free(16, WILD); // a free object of cache 6
        x.free(80, TWICE); // a free object
        x.free(68, WILD); // within an object
        x.free(72, 8); // an object of cache 0
        x.free(72, TWICE); // it again
        x.free(64, 8); // the next
        x.free(64, TWICE); // it again
        x.free(128, 64); // a block of order 0
        x.free(128, TWICE); // it again
        x.free(1025, WILD); // within a block
        x.free(1088, WILD); // a page within a block
        x.free(1024, 1024); // a block of order 4
        x.free(2048, 1024); // of alloc
        x.free(2048, TWICE); // it again: joined with the one behind it
        x.order(32, 5);
        x.count(5, 2);
    }

    private static void resize() {
        check.in("promise 12");
        Run x = started(0, 63);
        for (int odd : ODD) {
            x.resize(odd, 9, WILD);
        }
        x.alloc(8, 0);
        x.resize(8, 0, TWICE); // TWICE is looked at first
        x.resize(4, 5000, WILD); // WILD is looked at first
        for (int odd : ODD) {
            x.resize(0, odd, NONE);
        }
        x.resize(0, 0, NONE);
        x.resize(0, 4097, NONE);
        x.resize(0, 1, 0); // the same class
        x.resize(0, 8, 0); // the same class
        x.count(3, 1);
        x.resize(0, 9, 64); // another class
        x.free(0, TWICE); // the old one is free
        x.ofCache(0, 7, 0); // its slab is empty
        x.resize(64, 300, 512); // to a block
        x.resize(512, 257, 512); // the same order
        x.resize(512, 512, 512); // the same order
        x.resize(512, 513, 1024); // a greater order
        x.resize(1024, 512, 512); // a smaller order
        x.resize(512, 256, 1024); // to a class
        x.resize(1024, 4096, NONE); // missed
        x.size(1024, 256); // it stays
        x.arm(0, true);
        x.resize(1024, 1000, NONE); // missed by arming
        x.size(1024, 256); // it stays
        x.resize(1024, 3, 0); // from an empty slab nothing is missed

        Run y = started(0, 31);
        y.pages(0, 0);
        y.resize(0, 64, 256); // a block of 64 bytes is not class 3
        y.ofPage(0, 0); // it went
        y.pages(2, 0);
        y.resize(0, 256, 1024); // a block of 256 bytes is not class 5
        y.count(7, 24); // the most at a time
        y.pages(3, 8);
        y.resize(512, 400, 512); // a block of order 3 is what 512 bytes are
    }

    private static void resizeBytes() {
        check.in("promise 12, bytes");
        moves(512, 512, 21, 32, 512);
        moves(512, 512, 600, 1024, 1024);
        moves(1000, 1024, 2000, 2048, 2048);
        moves(4096, 4096, 2047, 2048, 4096);
        moves(8, 8, 4096, 4096, 4096);
        moves(3, 8, 9, 16, 64);
        moves(200, 256, 9, 16, 1024);
    }

    /** What was taken for so many bytes, and had so many, is resized; window by window, for an object has few calls. */
    private static void moves(int bytes, int had, int wanted, int gets, int to) {
        int window = 100;
        for (int from = 0; from < Math.max(had, gets); from += window) {
            Run x = started(0, 255).alloc(bytes, 0);
            for (int i = from; i < from + window && i < to; i++) {
                x.write(to + i, patternAt(i, 200), 0);
                x.write(i, patternAt(i, 1), 0);
            }
            x.resize(0, wanted, to).size(to, gets);
            for (int i = from; i < from + window && i < to; i++) {
                x.read(to + i, i < had && i < wanted ? patternAt(i, 1) : patternAt(i, 200));
                x.read(i, patternAt(i, 1));
            }
        }
    }

    private static int patternAt(int address, int salt) {
        return (address * 7 + (address >> 8) * 13 + salt) & 255;
    }

    private static void size() {
        check.in("promise 13");
        Run x = started(0, 63);
        for (int odd : ODD) {
            x.size(odd, WILD);
        }
        x.size(0, TWICE); // a free block
        x.size(64, WILD); // within a free block
        x.size(64 * 64, WILD); // an unusable page
        x.alloc(3, 0);
        x.size(0, 8); // the cache's
        x.size(8, TWICE); // a free object
        x.size(1, WILD); // within an object
        x.cache(24, 8, 6);
        x.take(6, 128);
        x.size(128, WILD); // of a cache above 5
        x.take(5, 1024);
        x.size(1024, 256);
        for (int order = 3; order >= 0; order--) {
            int page = x.next().pages(order);
            x.size(page * 64, 64 << order);
            x.size(page * 64 + 8, WILD); // within it
        }
        x.alloc(900, 3072);
        x.size(3072, 1024); // the pages'
        x.free(3072, 1024);
        x.size(3072, TWICE);
        Run most = started(0, 255);
        most.pages(6, 0);
        most.size(0, 4096);
    }

    private static void read() {
        check.in("promise 14");
        Run x = new Run(check);
        for (int odd : ODD) {
            x.read(odd, NONE);
        }
        x.write(7, 255, 0);
        x.write(8, 128, 0);
        x.read(6, 0);
        x.read(7, 255);
        x.read(8, 128);
        x.read(9, 0);
        for (int from = 0; from < 16384; from += Run.MOST_CALLS) {
            Run fresh = new Run(check);
            for (int address = from; address < from + Run.MOST_CALLS; address++) {
                fresh.read(address, 0);
            }
        }
    }

    private static void write() {
        check.in("promise 15");
        Run x = new Run(check);
        for (int odd : ODD) {
            x.write(odd, 1, NONE);
        }
        x.write(16382, 99, 0);
        x.write(16383, -1, 0);
        x.write(16383, 256, 255);
        x.write(16383, 300, 0);
        x.write(16383, Integer.MIN_VALUE, 44);
        x.write(16383, Integer.MAX_VALUE, 0);
        x.read(16383, 255);
        x.read(16382, 99);
        int half = Run.MOST_CALLS / 2;
        for (int from = 0; from < 16384; from += half) {
            Run each = new Run(check);
            for (int address = from; address < from + half; address++) {
                each.write(address, patternAt(address, 9), 0);
            }
            for (int address = from; address < from + half; address++) {
                each.read(address, patternAt(address, 9));
            }
        }
        Run y = started(0, 3);
        y.write(70, 5, 0);
        y.pages(2, 0);
        y.freePages(0, 4);
        y.alloc(8, 0);
        y.read(70, 5); // what stands there stays
    }

    private static void arm() {
        check.in("promise 16");
        Run x = started(0, 63);
        x.arm(-1, false);
        x.arm(101, false);
        for (int odd : ODD) {
            x.arm(odd, false);
        }
        x.count(8, NONE);
        x.arm(100, true);
        x.count(8, 100);
        x.arm(101, false);
        x.count(8, 100);
        x.arm(2, true);
        x.pages(0, 0);
        x.count(8, 1);
        x.pages(7, NONE); // is no taking
        x.alloc(0, NONE); // is no taking
        x.count(8, 1);
        x.pages(6, NONE); // nothing is free
        x.count(8, 0); // it counts
        x.pages(0, NONE); // missed
        x.count(8, NONE); // nothing is armed
        x.count(2, 2);
        x.pages(0, 1);

        x.arm(0, true);
        x.take(0, NONE); // the slab is missed
        x.ofCache(0, 5, 0);
        x.take(0, 128);
        x.arm(0, true);
        x.take(0, 136); // no block is taken for it
        x.count(8, 0);
        x.alloc(300, NONE); // is missed
        x.arm(0, true);
        x.pages(6, NONE); // missed, nothing free either
        x.count(8, NONE);
        x.count(2, 5);
        x.count(3, 3);

        Run early = new Run(check);
        early.arm(1, true);
        early.usable(0, 3, true);
        early.pages(0, NONE);
        early.take(0, NONE);
        early.alloc(8, NONE);
        early.count(8, 1);
        early.start(4);
        early.pages(0, 0);
        early.pages(0, NONE);
        early.pages(0, 1);
    }

    private static void ofPage() {
        check.in("promise 17");
        Run x = new Run(check);
        x.usable(0, 31, true);
        x.ofPage(0, -1); // not started
        x.ofPage(-1, -2);
        x.ofPage(256, -2);
        x.start(32);
        for (int odd : ODD) {
            x.ofPage(odd, -2);
        }
        x.ofPage(256, -2);
        x.ofPage(255, -1);
        x.ofPage(31, 0);
        x.cache(40, 8, 6);
        x.takes(6, 0);
        x.pages(3, 8);
        x.takes(2, 256);
        for (int page = 0; page < 32; page++) {
            int want = page < 4 ? 8 : page < 6 ? 4 : page < 8 ? 0 : page < 16 ? 1 : 0;
            x.ofPage(page, want);
        }
        x.give(2, 256, 0);
        x.ofPage(5, 4); // an empty slab
        x.shrink(2, 2);
        x.ofPage(5, 0); // no slab any more
    }

    private static void block() {
        check.in("promise 18");
        Run x = new Run(check);
        x.usable(10, 40, true);
        x.block(10, NONE); // not started
        x.start(31);
        for (int odd : ODD) {
            x.block(odd, NONE);
        }
        x.block(256, NONE);
        x.block(9, NONE);
        x.block(41, NONE);
        int[] firsts = {10, 10, 12, 12, 12, 12, 16, 16};
        for (int i = 0; i < firsts.length; i++) {
            x.block(10 + i, firsts[i]);
        }
        x.block(31, 16);
        x.block(39, 32);
        x.block(40, 40);
        x.take(5, 1024);
        x.block(27, 16); // a slab
        x.pages(2, 12);
        x.block(15, 12); // a taken one
        x.pages(2, 32);
        x.block(39, 36); // a half
    }

    private static void order() {
        check.in("promise 19");
        Run x = new Run(check);
        x.usable(10, 40, true);
        x.order(10, NONE); // not started
        x.start(31);
        for (int odd : ODD) {
            x.order(odd, NONE);
        }
        x.order(256, NONE);
        x.order(9, NONE);
        x.order(41, NONE);
        x.order(11, 1);
        x.order(14, 2);
        x.order(31, 4);
        x.order(33, 3);
        x.order(40, 0);
        x.take(2, 640);
        x.order(11, 1); // a slab
        x.pages(1, 12);
        x.order(13, 1); // a taken half
        x.order(15, 1); // a free half
        x.freePages(12, 2);
        x.order(15, 2); // joined
    }

    private static void freeBlocks() {
        check.in("promise 20");
        Run x = new Run(check);
        x.usable(0, 255, true);
        x.frees(0, 0, 0, 0, 0, 0, 0);
        x.freeBlocks(-1, NONE);
        x.freeBlocks(7, NONE);
        for (int odd : ODD) {
            x.freeBlocks(odd, NONE);
        }
        x.start(256);
        x.frees(0, 0, 0, 0, 0, 0, 4);
        x.pages(1, 0);
        x.frees(0, 1, 1, 1, 1, 1, 3);
        x.take(0, 128);
        x.frees(1, 0, 1, 1, 1, 1, 3);
        x.freePages(0, 2);
        x.frees(1, 1, 1, 1, 1, 1, 3);
        x.give(0, 128, 0);
        x.frees(1, 1, 1, 1, 1, 1, 3);
        x.shrink(0, 1);
        x.frees(0, 0, 0, 0, 0, 0, 4);
        x.freeBlocks(7, NONE);
    }

    private static void ofCache() {
        check.in("promise 21");
        Run x = new Run(check);
        int[] alignments = {8, 16, 32, 64, 64, 64};
        int[] orders = {0, 0, 1, 2, 3, 4};
        int[] objects = {8, 4, 4, 4, 4, 4};
        for (int c = 0; c < 6; c++) {
            x.figures(c, 8 << c, alignments[c], 8 << c, orders[c], objects[c], 0, 0, NONE, NONE);
        }
        for (int odd : ODD) {
            x.ofCache(odd, 0, NONE);
            x.ofCache(0, odd, NONE);
        }
        x.ofCache(6, 0, NONE);
        x.usable(8, 15, true);
        x.start(8);
        x.ofCache(6, 0, NONE);
        x.takes(1, 512, 528, 544, 560, 576);
        x.figures(1, 16, 16, 16, 0, 4, 2, 5, NONE, NONE);
        x.give(1, 576, 0);
        x.figures(1, 16, 16, 16, 0, 4, 2, 4, 9);
        x.takes(1, 576);
        x.figures(1, 16, 16, 16, 0, 4, 2, 5, NONE);
    }

    private static void count() {
        check.in("promise 22");
        Run x = new Run(check);
        x.usable(0, 15, true);
        x.counts(16, 0, 0, 0, 0, 0, 6, 0, NONE, NONE);
        for (int odd : ODD) {
            x.count(odd, NONE);
        }
        x.start(16);
        x.counts(16, 16, 0, 0, 0, 0, 6, 0, NONE, NONE);
        x.pages(3, 0);
        x.take(0, 512);
        x.take(0, 520);
        x.cache(3, 1, 6);
        x.take(6, 576);
        x.pages(3, NONE);
        x.counts(16, 6, 1, 3, 0, 3, 7, 10, NONE);
        x.freePages(0, 8);
        x.freePages(0, TWICE);
        x.give(6, 576, 0);
        x.counts(16, 14, 1, 3, 1, 2, 7, 10, NONE);
        x.shrink(6, 1);
        x.counts(16, 15, 1, 3, 2, 2, 7, 10, NONE);
        x.pages(2, 12);
        x.counts(16, 11, 1, 4, 2, 2, 7, 10, NONE);
        x.arm(7, true);
        x.pages(2, 0);
        x.counts(16, 7, 1, 5, 2, 2, 7, 10, 6);
        x.resize(0, 200, NONE); // resize holds both for a while
        x.resize(0, 128, NONE);
        x.resize(0, 64, 256);
        x.counts(16, 7, 3, 6, 3, 3, 7, 13, 3);
    }

    private static void beforeStart() {
        check.in("before the start");
        Run x = new Run(check);
        x.usable(0, 255, true);
        for (int i = 0; i < 7; i++) {
            x.pages(i, NONE);
            x.take(i, NONE);
            x.give(i, 0, WILD);
            x.shrink(i, i < 6 ? 0 : NONE);
        }
        x.alloc(8, NONE);
        x.alloc(4096, NONE);
        x.freePages(0, WILD);
        x.free(0, WILD);
        x.size(0, WILD);
        x.resize(0, 8, WILD);
        x.resize(0, 0, WILD);
        x.write(0, 3, 0);
        x.read(0, 3);
        x.counts(256, 0, 0, 0, 0, 0, 6, 0, NONE);
    }
}
