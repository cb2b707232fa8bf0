/** Each promise of the document by hand: ordinary inputs, the edges that it names, wrong inputs. */
public final class PromisesTest {
    private static final int NONE = PageSlabs.NONE, WILD = PageSlabs.WILD, TWICE = PageSlabs.TWICE;
    private static final int[] ODD = {Integer.MIN_VALUE, Integer.MIN_VALUE + 1, -65, -1, 16384, 1 << 20, 1 << 30, Integer.MAX_VALUE};

    private static final Check check = new Check();

    public static void main(String[] args) {
        newObject();
        usable();
        start();
        pages();
        freePages();
        cache();
        take();
        give();
        shrink();
        alloc();
        free();
        resize();
        resizeBytes();
        size();
        read();
        write();
        arm();
        ofPage();
        block();
        order();
        freeBlocks();
        ofCache();
        count();
        beforeStart();
        check.end();
    }

    private static PageSlabs started(int from, int to) {
        PageSlabs x = new PageSlabs();
        check.yes("usable(" + from + ", " + to + ")", x.usable(from, to));
        check.due("start()", x.start(), to - from + 1);
        return x;
    }

    private static void due(String call, int got, int want) {
        check.due(call, got, want);
    }

    private static void counts(PageSlabs x, int... want) {
        for (int i = 0; i < want.length; i++) {
            due("count(" + i + ")", x.count(i), want[i]);
        }
    }

    private static void frees(PageSlabs x, int... want) {
        for (int i = 0; i < want.length; i++) {
            due("freeBlocks(" + i + ")", x.freeBlocks(i), want[i]);
        }
    }

    private static void figures(PageSlabs x, int cache, int... want) {
        for (int i = 0; i < want.length; i++) {
            due("ofCache(" + cache + ", " + i + ")", x.ofCache(cache, i), want[i]);
        }
    }

    private static void takes(PageSlabs x, int cache, int... want) {
        for (int address : want) {
            due("take(" + cache + ")", x.take(cache), address);
        }
    }

    private static void newObject() {
        check.in("promise 1");
        due("NONE", NONE, -1);
        due("WILD", WILD, -2);
        due("TWICE", TWICE, -3);
        PageSlabs x = new PageSlabs();
        counts(x, 0, 0, 0, 0, 0, 0, 6, 0, NONE);
        frees(x, 0, 0, 0, 0, 0, 0, 0);
        for (int page = 0; page < 256; page++) {
            due("ofPage(" + page + ")", x.ofPage(page), -1);
        }
        due("start()", x.start(), 0);
        due("pages(0)", x.pages(0), NONE);
        counts(x, 0, 0, 1, 0, 0, 0, 6, 0, NONE);
        PageSlabs other = started(0, 3);
        due("pages(2)", other.pages(2), 0);
        due("the first one's count(0)", x.count(0), 0);
        due("the first one's ofPage(0)", x.ofPage(0), -1);
    }

    private static void usable() {
        check.in("promise 2");
        PageSlabs x = new PageSlabs();
        check.no("usable(-1, 0)", x.usable(-1, 0));
        check.no("usable(0, 256)", x.usable(0, 256));
        check.no("usable(256, 256)", x.usable(256, 256));
        check.no("usable(1, 0)", x.usable(1, 0));
        check.no("usable(0, -1)", x.usable(0, -1));
        for (int odd : ODD) {
            check.no("usable(odd, 9)", x.usable(odd, 9));
            check.no("usable(9, odd)", x.usable(9, odd));
            check.no("usable(odd, odd)", x.usable(odd, odd));
        }
        due("count(0)", x.count(0), 0);
        check.yes("usable(0, 0)", x.usable(0, 0));
        check.yes("usable(255, 255)", x.usable(255, 255));
        check.yes("usable(10, 20)", x.usable(10, 20));
        check.yes("usable(15, 25)", x.usable(15, 25));
        check.yes("usable(12, 13)", x.usable(12, 13));
        due("count(0)", x.count(0), 18);
        due("start()", x.start(), 18);
        check.no("usable(1, 1)", x.usable(1, 1));
        check.no("usable(10, 10)", x.usable(10, 10));
        due("count(0)", x.count(0), 18);
        due("ofPage(1)", x.ofPage(1), -1);
        due("ofPage(9)", x.ofPage(9), -1);
        due("ofPage(10)", x.ofPage(10), 0);
        due("ofPage(25)", x.ofPage(25), 0);
        due("ofPage(26)", x.ofPage(26), -1);
    }

    private static void start() {
        check.in("promise 3");
        PageSlabs all = started(0, 255);
        due("start() again", all.start(), NONE);
        frees(all, 0, 0, 0, 0, 0, 0, 4);
        counts(all, 256, 256, 0, 0, 0, 0, 6, 0, NONE);

        PageSlabs x = new PageSlabs();
        x.usable(1, 127);
        x.usable(130, 130);
        x.usable(129, 129);
        due("start()", x.start(), 129);
        frees(x, 3, 1, 1, 1, 1, 1, 1);
        due("order(1)", x.order(1), 0);
        due("order(2)", x.order(2), 1);
        due("order(63)", x.order(63), 5);
        due("order(64)", x.order(64), 6);
        due("order(129)", x.order(129), 0);
        due("order(130)", x.order(130), 0);
        due("start() again", x.start(), NONE);
        due("count(1)", x.count(1), 129);

        PageSlabs none = new PageSlabs();
        due("start() with nothing usable", none.start(), 0);
        due("start() again", none.start(), NONE);
        check.no("usable(0, 0)", none.usable(0, 0));
    }

    private static void pages() {
        check.in("promise 4");
        PageSlabs x = started(2, 44);
        due("pages(-1)", x.pages(-1), NONE);
        due("pages(7)", x.pages(7), NONE);
        for (int odd : ODD) {
            due("pages(odd)", x.pages(odd), NONE);
        }
        due("count(2)", x.count(2), 0);
        due("pages(5)", x.pages(5), NONE);
        due("pages(6)", x.pages(6), NONE);
        due("count(2)", x.count(2), 2);
        due("pages(0): the least order", x.pages(0), 44);
        due("pages(0): the next order", x.pages(0), 2);
        due("pages(2): the least page", x.pages(2), 4);
        due("pages(2)", x.pages(2), 40);
        due("pages(2): halved", x.pages(2), 8);
        frees(x, 1, 0, 1, 1, 1, 0, 0);
        due("order(12)", x.order(12), 2);
        due("pages(1): halved", x.pages(1), 12);
        due("pages(4)", x.pages(4), 16);
        due("pages(4)", x.pages(4), NONE);
        counts(x, 43, 11, 3, 7, 0, 0, 6, 32, NONE);

        PageSlabs one = started(64, 127);
        due("pages(0)", one.pages(0), 64);
        frees(one, 1, 1, 1, 1, 1, 1, 0);
        due("block(65)", one.block(65), 65);
        due("block(67)", one.block(67), 66);
        due("block(96)", one.block(96), 96);
        due("order(127)", one.order(127), 5);
        due("pages(6)", one.pages(6), NONE);
        due("pages(5)", one.pages(5), 96);
    }

    private static void freePages() {
        check.in("promise 5");
        PageSlabs x = started(0, 127);
        due("freePages of a free block", x.freePages(0), TWICE);
        due("freePages of a free block", x.freePages(64), TWICE);
        due("freePages within a free block", x.freePages(32), WILD);
        due("freePages of an unusable page", x.freePages(128), WILD);
        due("freePages(256)", x.freePages(256), WILD);
        for (int odd : ODD) {
            due("freePages(odd)", x.freePages(odd), WILD);
        }
        due("pages(3)", x.pages(3), 0);
        due("pages(3)", x.pages(3), 8);
        due("pages(6)", x.pages(6), 64);
        due("freePages(4)", x.freePages(4), WILD);
        due("freePages(0)", x.freePages(0), 8);
        frees(x, 0, 0, 0, 1, 1, 1, 0);
        due("freePages(0)", x.freePages(0), TWICE);
        due("freePages(8)", x.freePages(8), 8);
        frees(x, 0, 0, 0, 0, 0, 0, 1);
        due("freePages(8) within the joined one", x.freePages(8), WILD);
        due("freePages(64)", x.freePages(64), 64);
        frees(x, 0, 0, 0, 0, 0, 0, 2);
        due("take(0)", x.take(0), 0);
        due("freePages of a slab", x.freePages(0), WILD);
        due("give(0, 0)", x.give(0, 0), 0);
        due("freePages of an empty slab", x.freePages(0), WILD);
        due("alloc(257)", x.alloc(257), 512);
        due("freePages of what alloc took", x.freePages(8), 8);
        counts(x, 128, 127, 0, 5, 4, 0, 6, 80, NONE);
        joinsOnlyTheSameOrder();
    }

    private static void joinsOnlyTheSameOrder() {
        PageSlabs x = started(0, 3);
        due("pages(0)", x.pages(0), 0);
        due("pages(0)", x.pages(0), 1);
        due("pages(0)", x.pages(0), 2);
        due("pages(0)", x.pages(0), 3);
        due("freePages(1)", x.freePages(1), 1);
        due("freePages(2)", x.freePages(2), 1);
        frees(x, 2, 0, 0);
        due("freePages(3)", x.freePages(3), 1);
        frees(x, 1, 1, 0);
        due("block(3)", x.block(3), 2);
        due("freePages(0)", x.freePages(0), 1);
        frees(x, 0, 0, 1, 0);
        PageSlabs part = started(0, 2);
        due("pages(1)", part.pages(1), 0);
        due("freePages(0)", part.freePages(0), 2);
        frees(part, 1, 1, 0);
    }

    private static void cache() {
        check.in("promise 6");
        PageSlabs x = new PageSlabs();
        x.usable(0, 255);
        due("cache before the start", x.cache(8, 8), NONE);
        due("count(6)", x.count(6), 6);
        x.start();
        due("cache(0, 1)", x.cache(0, 1), NONE);
        due("cache(1025, 1)", x.cache(1025, 1), NONE);
        int[] alignments = {0, -1, -2, -64, 3, 5, 6, 7, 12, 24, 48, 63, 65, 96, 128};
        for (int align : alignments) {
            due("cache(8, " + align + ")", x.cache(8, align), NONE);
        }
        for (int odd : ODD) {
            due("cache(odd, 1)", x.cache(odd, 1), NONE);
            due("cache(1, odd)", x.cache(1, odd), NONE);
        }
        due("cache(1, 1)", x.cache(1, 1), 6);
        due("cache(1024, 64)", x.cache(1024, 64), 7);
        due("cache(17, 2)", x.cache(17, 2), 8);
        due("cache(17, 4)", x.cache(17, 4), 9);
        due("cache(200, 32)", x.cache(200, 32), 10);
        due("cache(300, 8)", x.cache(300, 8), 11);
        due("the 13th", x.cache(8, 8), NONE);
        due("count(6)", x.count(6), 12);
        figures(x, 6, 1, 1, 1, 0, 64, 0, 0, NONE);
        figures(x, 7, 1024, 64, 1024, 4, 1, 0, 0, NONE);
        figures(x, 8, 17, 2, 18, 1, 7, 0, 0, NONE);
        figures(x, 9, 17, 4, 20, 1, 6, 0, 0, NONE);
        figures(x, 10, 200, 32, 224, 4, 4, 0, 0, NONE);
        figures(x, 11, 300, 8, 304, 4, 3, 0, 0, NONE);
        due("count(3)", x.count(3), 0);
    }

    private static void take() {
        check.in("promise 7");
        PageSlabs x = started(4, 13);
        due("take(-1)", x.take(-1), NONE);
        due("take(6)", x.take(6), NONE);
        due("take(12)", x.take(12), NONE);
        for (int odd : ODD) {
            due("take(odd)", x.take(odd), NONE);
        }
        takes(x, 1, 768, 784, 800, 816);
        takes(x, 1, 832);
        due("count(3)", x.count(3), 2);
        due("give back to the full one", x.give(1, 784), 3);
        takes(x, 1, 784);
        takes(x, 1, 848);
        rowOfASlab();
        partlyLiveBeforeEmpty();
        missedObject();
        greatestSlab();
    }

    private static void rowOfASlab() {
        PageSlabs x = started(0, 15);
        takes(x, 0, 0, 8, 16, 24);
        due("give(0, 8)", x.give(0, 8), 3);
        due("give(0, 0)", x.give(0, 0), 2);
        due("give(0, 24)", x.give(0, 24), 1);
        takes(x, 0, 24, 0, 8, 32, 40, 48, 56, 64);
        for (int address = 0; address < 64; address += 8) {
            due("give(0, " + address + ")", x.give(0, address), 7 - address / 8);
        }
        due("the empty one", x.ofCache(0, 7), 0);
        takes(x, 0, 72, 80, 88, 96, 104, 112, 120);
        takes(x, 0, 56, 48);
        due("the empty one", x.ofCache(0, 7), NONE);
        due("give(0, 48)", x.give(0, 48), 1);
        due("give(0, 56)", x.give(0, 56), 0);
        due("shrink(0)", x.shrink(0), 1);
        due("a new slab's row", x.take(0), 0);
    }

    private static void partlyLiveBeforeEmpty() {
        PageSlabs x = started(0, 15);
        takes(x, 1, 0, 16, 32, 48, 64, 80, 96, 112, 128);
        due("give(1, 128)", x.give(1, 128), 0);
        due("give(1, 80)", x.give(1, 80), 3);
        due("give(1, 48)", x.give(1, 48), 3);
        takes(x, 1, 48, 80, 128);
        due("count(3)", x.count(3), 3);
        for (int address = 0; address < 64; address += 16) {
            x.give(1, address);
        }
        due("the empty one", x.ofCache(1, 7), 0);
        due("live ones first, though of a later page", x.take(1), 144);
    }

    private static void missedObject() {
        PageSlabs x = started(0, 0);
        due("take(2)", x.take(2), NONE);
        due("count(2)", x.count(2), 1);
        figures(x, 2, 32, 32, 32, 1, 4, 0, 0, NONE);
        takes(x, 1, 0, 16, 32, 48, NONE);
        counts(x, 1, 0, 2, 1, 0, 4, 6, 1, NONE);
    }

    private static void greatestSlab() {
        PageSlabs x = started(16, 63);
        due("cache(1000, 1)", x.cache(1000, 1), 6);
        takes(x, 6, 1024, 2048, 3072, NONE);
        due("give(6, 2048)", x.give(6, 2048), 0);
        due("ofCache(6, 7)", x.ofCache(6, 7), 32);
        takes(x, 6, 2048, NONE);
    }

    private static void give() {
        check.in("promise 8");
        PageSlabs x = started(0, 31);
        due("cache(17, 2)", x.cache(17, 2), 6);
        takes(x, 6, 0, 18, 36);
        takes(x, 2, 128);
        for (int odd : ODD) {
            due("give(6, odd)", x.give(6, odd), WILD);
            due("give(odd, 0)", x.give(odd, 0), WILD);
        }
        due("no such cache", x.give(7, 0), WILD);
        due("of another cache", x.give(2, 0), WILD);
        due("of another cache", x.give(6, 128), WILD);
        due("within an object", x.give(6, 19), WILD);
        due("a free object", x.give(6, 54), TWICE);
        due("the last free object", x.give(6, 108), TWICE);
        due("behind the last object", x.give(6, 126), WILD);
        due("of a free block", x.give(6, 256), WILD);
        due("pages(0)", x.pages(0), 4);
        due("of a taken block", x.give(6, 256), WILD);
        due("give(6, 18)", x.give(6, 18), 2);
        due("give(6, 18)", x.give(6, 18), TWICE);
        due("give(6, 0)", x.give(6, 0), 1);
        due("give(6, 36)", x.give(6, 36), 0);
        due("in the empty one", x.give(6, 36), TWICE);
        figures(x, 6, 17, 2, 18, 1, 7, 1, 0, 0);
        due("count(4)", x.count(4), 0);
        secondEmptyGoes();
        mostObjects();
    }

    private static void mostObjects() {
        PageSlabs x = started(255, 255);
        due("cache(1, 1)", x.cache(1, 1), 6);
        for (int i = 0; i < 64; i++) {
            takes(x, 6, 16320 + i);
        }
        takes(x, 6, NONE);
        for (int i = 63; i >= 0; i--) {
            due("give", x.give(6, 16320 + i), i);
            due("give again", x.give(6, 16320 + i), TWICE);
        }
        takes(x, 6, 16320, 16321);
    }

    private static void secondEmptyGoes() {
        PageSlabs x = started(0, 3);
        takes(x, 1, 0, 16, 32, 48, 64);
        due("give(1, 64)", x.give(1, 64), 0);
        due("the empty one", x.ofCache(1, 7), 1);
        for (int address = 0; address < 48; address += 16) {
            due("give", x.give(1, address), 3 - address / 16);
        }
        due("the last live one", x.give(1, 48), 0);
        due("the first empty one stays", x.ofCache(1, 7), 1);
        due("slabs", x.ofCache(1, 5), 1);
        due("ofPage(0)", x.ofPage(0), 0);
        due("the block went", x.give(1, 0), WILD);
        due("free(0)", x.free(0), TWICE);
        counts(x, 4, 3, 0, 2, 1, 0, 6, 2, NONE);
    }

    private static void shrink() {
        check.in("promise 9");
        PageSlabs x = started(0, 63);
        due("shrink(-1)", x.shrink(-1), NONE);
        due("shrink(6)", x.shrink(6), NONE);
        for (int odd : ODD) {
            due("shrink(odd)", x.shrink(odd), NONE);
        }
        due("shrink(4) without a slab", x.shrink(4), 0);
        takes(x, 4, 0);
        due("shrink(4) with a live one", x.shrink(4), 0);
        due("give(4, 0)", x.give(4, 0), 0);
        figures(x, 4, 128, 64, 128, 3, 4, 1, 0, 0);
        due("shrink(4)", x.shrink(4), 8);
        figures(x, 4, 128, 64, 128, 3, 4, 0, 0, NONE);
        due("shrink(4) again", x.shrink(4), 0);
        frees(x, 0, 0, 0, 0, 0, 0, 1);
        counts(x, 64, 64, 0, 1, 1, 0, 6, 8, NONE);
        takes(x, 5, 0);
        due("give(5, 0)", x.give(5, 0), 0);
        due("shrink(5)", x.shrink(5), 16);
    }

    private static void alloc() {
        check.in("promise 10");
        PageSlabs x = started(0, 255);
        due("alloc(0)", x.alloc(0), NONE);
        due("alloc(4097)", x.alloc(4097), NONE);
        for (int odd : ODD) {
            due("alloc(odd)", x.alloc(odd), NONE);
        }
        due("count(2)", x.count(2), 0);
        int[][] edges = {{1, 8}, {8, 8}, {9, 16}, {16, 16}, {17, 32}, {32, 32}, {33, 64}, {64, 64}, {65, 128}, {128, 128},
            {129, 256}, {256, 256}, {257, 512}, {512, 512}, {513, 1024}, {1024, 1024}, {1025, 2048}, {2048, 2048},
            {2049, 4096}, {4096, 4096}};
        for (int[] edge : edges) {
            int address = x.alloc(edge[0]);
            boolean small = edge[0] <= 256;
            due("size of alloc(" + edge[0] + ")", x.size(address), edge[1]);
            due("ofPage of alloc(" + edge[0] + ")", x.ofPage(address / 64), small ? 2 + Integer.numberOfTrailingZeros(edge[1] / 8) : 1);
            due("free of alloc(" + edge[0] + ")", x.free(address), edge[1]);
        }
        due("count(5)", x.count(5), 0);

        PageSlabs few = started(8, 16);
        due("alloc(1)", few.alloc(1), 1024);
        due("alloc(500)", few.alloc(500), 512);
        due("alloc(257)", few.alloc(257), NONE);
        due("alloc(16)", few.alloc(16), NONE);
        due("alloc(8)", few.alloc(8), 1032);
        counts(few, 9, 0, 2, 2, 0, 2, 6, 9, NONE);
    }

    private static void free() {
        check.in("promise 11");
        PageSlabs x = started(0, 63);
        for (int odd : ODD) {
            due("free(odd)", x.free(odd), WILD);
        }
        due("a free block", x.free(0), TWICE);
        due("within its first page", x.free(1), WILD);
        due("within it", x.free(64), WILD);
        due("an unusable page", x.free(4096), WILD);
        due("cache(8, 8)", x.cache(8, 8), 6);
        takes(x, 6, 0, 8);
        takes(x, 0, 64, 72);
        due("pages(0)", x.pages(0), 2);
        due("pages(4)", x.pages(4), 16);
        due("alloc(4000)", x.alloc(4000), NONE);
        due("alloc(513)", x.alloc(513), 2048);
        due("an object of cache 6", x.free(0), WILD);
        due("a free object of cache 6", x.free(16), WILD);
        due("a free object", x.free(80), TWICE);
        due("within an object", x.free(68), WILD);
        due("an object of cache 0", x.free(72), 8);
        due("it again", x.free(72), TWICE);
        due("the next", x.free(64), 8);
        due("it again", x.free(64), TWICE);
        due("a block of order 0", x.free(128), 64);
        due("it again", x.free(128), TWICE);
        due("within a block", x.free(1025), WILD);
        due("a page within a block", x.free(1088), WILD);
        due("a block of order 4", x.free(1024), 1024);
        due("of alloc", x.free(2048), 1024);
        due("it again: joined with the one behind it", x.free(2048), TWICE);
        due("order(32)", x.order(32), 5);
        due("count(5)", x.count(5), 2);
    }

    private static void resize() {
        check.in("promise 12");
        PageSlabs x = started(0, 63);
        for (int odd : ODD) {
            due("resize(odd, 9)", x.resize(odd, 9), WILD);
        }
        due("alloc(8)", x.alloc(8), 0);
        due("TWICE is looked at first", x.resize(8, 0), TWICE);
        due("WILD is looked at first", x.resize(4, 5000), WILD);
        for (int odd : ODD) {
            due("resize(0, odd)", x.resize(0, odd), NONE);
        }
        due("resize(0, 0)", x.resize(0, 0), NONE);
        due("resize(0, 4097)", x.resize(0, 4097), NONE);
        due("the same class", x.resize(0, 1), 0);
        due("the same class", x.resize(0, 8), 0);
        due("count(3)", x.count(3), 1);
        due("another class", x.resize(0, 9), 64);
        due("the old one is free", x.free(0), TWICE);
        due("its slab is empty", x.ofCache(0, 7), 0);
        due("to a block", x.resize(64, 300), 512);
        due("the same order", x.resize(512, 257), 512);
        due("the same order", x.resize(512, 512), 512);
        due("a greater order", x.resize(512, 513), 1024);
        due("a smaller order", x.resize(1024, 512), 512);
        due("to a class", x.resize(512, 256), 1024);
        due("missed", x.resize(1024, 4096), NONE);
        due("it stays", x.size(1024), 256);
        check.yes("arm(0)", x.arm(0));
        due("missed by arming", x.resize(1024, 1000), NONE);
        due("it stays", x.size(1024), 256);
        due("from an empty slab nothing is missed", x.resize(1024, 3), 0);

        PageSlabs y = started(0, 31);
        due("pages(0)", y.pages(0), 0);
        due("a block of 64 bytes is not class 3", y.resize(0, 64), 256);
        due("it went", y.ofPage(0), 0);
        due("pages(2)", y.pages(2), 0);
        due("a block of 256 bytes is not class 5", y.resize(0, 256), 1024);
        due("the most at a time", y.count(7), 24);
        due("pages(3)", y.pages(3), 8);
        due("a block of order 3 is what 512 bytes are", y.resize(512, 400), 512);
    }

    private static void resizeBytes() {
        check.in("promise 12, bytes");
        PageSlabs x = started(0, 63);
        fill(x, 0, 4096, 200);
        due("pages(3)", x.pages(3), 0);
        fill(x, 0, 512, 1);
        due("to 21 bytes", x.resize(0, 21), 512);
        for (int i = 0; i < 32; i++) {
            due("byte " + i, x.read(512 + i), i < 21 ? patternAt(i, 1) : patternAt(512 + i, 200));
        }
        due("the old bytes stand yet", x.read(5), patternAt(5, 1));
        fill(x, 512, 32, 77);
        due("to 600 bytes", x.resize(512, 600), 1024);
        for (int i = 0; i < 600; i++) {
            due("byte " + i, x.read(1024 + i), i < 32 ? patternAt(512 + i, 77) : patternAt(1024 + i, 200));
        }
        fill(x, 1024, 1024, 3);
        due("to 2000 bytes", x.resize(1024, 2000), 2048);
        for (int i = 0; i < 2048; i++) {
            due("byte " + i, x.read(2048 + i), i < 1024 ? patternAt(1024 + i, 3) : patternAt(2048 + i, 200));
        }
    }

    private static void fill(PageSlabs x, int from, int bytes, int salt) {
        for (int i = from; i < from + bytes; i++) {
            x.write(i, patternAt(i, salt));
        }
    }

    private static int patternAt(int address, int salt) {
        return (address * 7 + (address >> 8) * 13 + salt) & 255;
    }

    private static void size() {
        check.in("promise 13");
        PageSlabs x = started(0, 63);
        for (int odd : ODD) {
            due("size(odd)", x.size(odd), WILD);
        }
        due("a free block", x.size(0), TWICE);
        due("within a free block", x.size(64), WILD);
        due("an unusable page", x.size(64 * 64), WILD);
        due("alloc(3)", x.alloc(3), 0);
        due("size(0): the cache's", x.size(0), 8);
        due("a free object", x.size(8), TWICE);
        due("within an object", x.size(1), WILD);
        due("cache(24, 8)", x.cache(24, 8), 6);
        due("take(6)", x.take(6), 128);
        due("of a cache above 5", x.size(128), WILD);
        due("take(5)", x.take(5), 1024);
        due("size(1024)", x.size(1024), 256);
        for (int order = 3; order >= 0; order--) {
            int page = x.pages(order);
            due("a block of order " + order, x.size(page * 64), 64 << order);
            due("within it", x.size(page * 64 + 8), WILD);
        }
        due("alloc(900)", x.alloc(900), 3072);
        due("size(3072): the pages'", x.size(3072), 1024);
        due("free(3072)", x.free(3072), 1024);
        due("size(3072)", x.size(3072), TWICE);
        PageSlabs most = started(0, 255);
        due("pages(6)", most.pages(6), 0);
        due("size(0)", most.size(0), 4096);
    }

    private static void read() {
        check.in("promise 14");
        PageSlabs x = new PageSlabs();
        for (int odd : ODD) {
            due("read(odd)", x.read(odd), NONE);
        }
        for (int address = 0; address < 16384; address++) {
            due("read(" + address + ")", x.read(address), 0);
        }
        x.write(7, 255);
        x.write(8, 128);
        due("read(6)", x.read(6), 0);
        due("read(7)", x.read(7), 255);
        due("read(8)", x.read(8), 128);
        due("read(9)", x.read(9), 0);
    }

    private static void write() {
        check.in("promise 15");
        PageSlabs x = new PageSlabs();
        for (int odd : ODD) {
            due("write(odd, 1)", x.write(odd, 1), NONE);
        }
        fill(x, 0, 16384, 9);
        for (int address = 0; address < 16384; address++) {
            due("read(" + address + ")", x.read(address), patternAt(address, 9));
        }
        due("write(16383, -1)", x.write(16383, -1), patternAt(16383, 9));
        due("write(16383, 256)", x.write(16383, 256), 255);
        due("write(16383, 300)", x.write(16383, 300), 0);
        due("write(16383, MIN_VALUE)", x.write(16383, Integer.MIN_VALUE), 44);
        due("write(16383, MAX_VALUE)", x.write(16383, Integer.MAX_VALUE), 0);
        due("read(16383)", x.read(16383), 255);
        due("read(16382)", x.read(16382), patternAt(16382, 9));
        PageSlabs y = started(0, 3);
        due("write(70, 5)", y.write(70, 5), 0);
        due("pages(2)", y.pages(2), 0);
        due("freePages(0)", y.freePages(0), 4);
        due("alloc(8)", y.alloc(8), 0);
        due("what stands there stays", y.read(70), 5);
    }

    private static void arm() {
        check.in("promise 16");
        PageSlabs x = started(0, 63);
        check.no("arm(-1)", x.arm(-1));
        check.no("arm(101)", x.arm(101));
        for (int odd : ODD) {
            check.no("arm(odd)", x.arm(odd));
        }
        due("count(8)", x.count(8), NONE);
        check.yes("arm(100)", x.arm(100));
        due("count(8)", x.count(8), 100);
        check.no("arm(101)", x.arm(101));
        due("count(8)", x.count(8), 100);
        check.yes("arm(2)", x.arm(2));
        due("pages(0)", x.pages(0), 0);
        due("count(8)", x.count(8), 1);
        due("pages(7) is no taking", x.pages(7), NONE);
        due("alloc(0) is no taking", x.alloc(0), NONE);
        due("count(8)", x.count(8), 1);
        due("nothing is free", x.pages(6), NONE);
        due("it counts", x.count(8), 0);
        due("missed", x.pages(0), NONE);
        due("nothing is armed", x.count(8), NONE);
        due("count(2)", x.count(2), 2);
        due("pages(0)", x.pages(0), 1);

        check.yes("arm(0)", x.arm(0));
        due("the slab is missed", x.take(0), NONE);
        due("ofCache(0, 5)", x.ofCache(0, 5), 0);
        due("take(0)", x.take(0), 128);
        check.yes("arm(0)", x.arm(0));
        due("no block is taken for it", x.take(0), 136);
        due("count(8)", x.count(8), 0);
        due("alloc(300) is missed", x.alloc(300), NONE);
        check.yes("arm(0)", x.arm(0));
        due("missed, nothing free either", x.pages(6), NONE);
        due("count(8)", x.count(8), NONE);
        due("count(2)", x.count(2), 5);
        due("count(3)", x.count(3), 3);

        PageSlabs early = new PageSlabs();
        check.yes("arm(1) before the start", early.arm(1));
        early.usable(0, 3);
        due("pages(0)", early.pages(0), NONE);
        due("take(0)", early.take(0), NONE);
        due("alloc(8)", early.alloc(8), NONE);
        due("count(8)", early.count(8), 1);
        due("start()", early.start(), 4);
        due("pages(0)", early.pages(0), 0);
        due("pages(0)", early.pages(0), NONE);
        due("pages(0)", early.pages(0), 1);
    }

    private static void ofPage() {
        check.in("promise 17");
        PageSlabs x = new PageSlabs();
        x.usable(0, 31);
        due("not started", x.ofPage(0), -1);
        due("ofPage(-1)", x.ofPage(-1), -2);
        due("ofPage(256)", x.ofPage(256), -2);
        x.start();
        for (int odd : ODD) {
            due("ofPage(odd)", x.ofPage(odd), -2);
        }
        due("ofPage(256)", x.ofPage(256), -2);
        due("ofPage(255)", x.ofPage(255), -1);
        due("ofPage(31)", x.ofPage(31), 0);
        due("cache(40, 8)", x.cache(40, 8), 6);
        takes(x, 6, 0);
        due("pages(3)", x.pages(3), 8);
        takes(x, 2, 256);
        for (int page = 0; page < 32; page++) {
            int want = page < 4 ? 8 : page < 6 ? 4 : page < 8 ? 0 : page < 16 ? 1 : 0;
            due("ofPage(" + page + ")", x.ofPage(page), want);
        }
        due("give(2, 256)", x.give(2, 256), 0);
        due("an empty slab", x.ofPage(5), 4);
        due("shrink(2)", x.shrink(2), 2);
        due("no slab any more", x.ofPage(5), 0);
    }

    private static void block() {
        check.in("promise 18");
        PageSlabs x = new PageSlabs();
        x.usable(10, 40);
        due("not started", x.block(10), NONE);
        x.start();
        for (int odd : ODD) {
            due("block(odd)", x.block(odd), NONE);
        }
        due("block(256)", x.block(256), NONE);
        due("block(9)", x.block(9), NONE);
        due("block(41)", x.block(41), NONE);
        int[] firsts = {10, 10, 12, 12, 12, 12, 16, 16};
        for (int i = 0; i < firsts.length; i++) {
            due("block(" + (10 + i) + ")", x.block(10 + i), firsts[i]);
        }
        due("block(31)", x.block(31), 16);
        due("block(39)", x.block(39), 32);
        due("block(40)", x.block(40), 40);
        due("take(5)", x.take(5), 1024);
        due("a slab", x.block(27), 16);
        due("pages(2)", x.pages(2), 12);
        due("a taken one", x.block(15), 12);
        due("pages(2)", x.pages(2), 32);
        due("a half", x.block(39), 36);
    }

    private static void order() {
        check.in("promise 19");
        PageSlabs x = new PageSlabs();
        x.usable(10, 40);
        due("not started", x.order(10), NONE);
        x.start();
        for (int odd : ODD) {
            due("order(odd)", x.order(odd), NONE);
        }
        due("order(256)", x.order(256), NONE);
        due("order(9)", x.order(9), NONE);
        due("order(41)", x.order(41), NONE);
        due("order(11)", x.order(11), 1);
        due("order(14)", x.order(14), 2);
        due("order(31)", x.order(31), 4);
        due("order(33)", x.order(33), 3);
        due("order(40)", x.order(40), 0);
        due("take(2)", x.take(2), 640);
        due("a slab", x.order(11), 1);
        due("pages(1)", x.pages(1), 12);
        due("a taken half", x.order(13), 1);
        due("a free half", x.order(15), 1);
        due("freePages(12)", x.freePages(12), 2);
        due("joined", x.order(15), 2);
    }

    private static void freeBlocks() {
        check.in("promise 20");
        PageSlabs x = new PageSlabs();
        x.usable(0, 255);
        frees(x, 0, 0, 0, 0, 0, 0, 0);
        due("freeBlocks(-1)", x.freeBlocks(-1), NONE);
        due("freeBlocks(7)", x.freeBlocks(7), NONE);
        for (int odd : ODD) {
            due("freeBlocks(odd)", x.freeBlocks(odd), NONE);
        }
        x.start();
        frees(x, 0, 0, 0, 0, 0, 0, 4);
        due("pages(1)", x.pages(1), 0);
        frees(x, 0, 1, 1, 1, 1, 1, 3);
        due("take(0)", x.take(0), 128);
        frees(x, 1, 0, 1, 1, 1, 1, 3);
        due("freePages(0)", x.freePages(0), 2);
        frees(x, 1, 1, 1, 1, 1, 1, 3);
        due("give(0, 128)", x.give(0, 128), 0);
        frees(x, 1, 1, 1, 1, 1, 1, 3);
        due("shrink(0)", x.shrink(0), 1);
        frees(x, 0, 0, 0, 0, 0, 0, 4);
        due("freeBlocks(7)", x.freeBlocks(7), NONE);
    }

    private static void ofCache() {
        check.in("promise 21");
        PageSlabs x = new PageSlabs();
        int[] alignments = {8, 16, 32, 64, 64, 64};
        int[] orders = {0, 0, 1, 2, 3, 4};
        int[] objects = {8, 4, 4, 4, 4, 4};
        for (int c = 0; c < 6; c++) {
            figures(x, c, 8 << c, alignments[c], 8 << c, orders[c], objects[c], 0, 0, NONE, NONE);
        }
        for (int odd : ODD) {
            due("ofCache(odd, 0)", x.ofCache(odd, 0), NONE);
            due("ofCache(0, odd)", x.ofCache(0, odd), NONE);
        }
        due("ofCache(6, 0)", x.ofCache(6, 0), NONE);
        x.usable(8, 15);
        x.start();
        due("ofCache(6, 0)", x.ofCache(6, 0), NONE);
        takes(x, 1, 512, 528, 544, 560, 576);
        figures(x, 1, 16, 16, 16, 0, 4, 2, 5, NONE, NONE);
        due("give(1, 576)", x.give(1, 576), 0);
        figures(x, 1, 16, 16, 16, 0, 4, 2, 4, 9);
        takes(x, 1, 576);
        figures(x, 1, 16, 16, 16, 0, 4, 2, 5, NONE);
    }

    private static void count() {
        check.in("promise 22");
        PageSlabs x = new PageSlabs();
        x.usable(0, 15);
        counts(x, 16, 0, 0, 0, 0, 0, 6, 0, NONE, NONE);
        for (int odd : ODD) {
            due("count(odd)", x.count(odd), NONE);
        }
        x.start();
        counts(x, 16, 16, 0, 0, 0, 0, 6, 0, NONE, NONE);
        due("pages(3)", x.pages(3), 0);
        due("take(0)", x.take(0), 512);
        due("take(0)", x.take(0), 520);
        due("cache(3, 1)", x.cache(3, 1), 6);
        due("take(6)", x.take(6), 576);
        due("pages(3)", x.pages(3), NONE);
        counts(x, 16, 6, 1, 3, 0, 3, 7, 10, NONE);
        due("freePages(0)", x.freePages(0), 8);
        due("freePages(0)", x.freePages(0), TWICE);
        due("give(6, 576)", x.give(6, 576), 0);
        counts(x, 16, 14, 1, 3, 1, 2, 7, 10, NONE);
        due("shrink(6)", x.shrink(6), 1);
        counts(x, 16, 15, 1, 3, 2, 2, 7, 10, NONE);
        due("pages(2)", x.pages(2), 12);
        counts(x, 16, 11, 1, 4, 2, 2, 7, 10, NONE);
        check.yes("arm(7)", x.arm(7));
        due("pages(2)", x.pages(2), 0);
        counts(x, 16, 7, 1, 5, 2, 2, 7, 10, 6);
        due("resize holds both for a while", x.resize(0, 200), NONE);
        due("resize", x.resize(0, 128), NONE);
        due("resize", x.resize(0, 64), 256);
        counts(x, 16, 7, 3, 6, 3, 3, 7, 13, 3);
    }

    private static void beforeStart() {
        check.in("before the start");
        PageSlabs x = new PageSlabs();
        x.usable(0, 255);
        for (int i = 0; i < 7; i++) {
            due("pages", x.pages(i), NONE);
            due("take", x.take(i), NONE);
            due("give", x.give(i, 0), WILD);
            due("shrink", x.shrink(i), i < 6 ? 0 : NONE);
        }
        due("alloc(8)", x.alloc(8), NONE);
        due("alloc(4096)", x.alloc(4096), NONE);
        due("freePages(0)", x.freePages(0), WILD);
        due("free(0)", x.free(0), WILD);
        due("size(0)", x.size(0), WILD);
        due("resize(0, 8)", x.resize(0, 8), WILD);
        due("resize(0, 0)", x.resize(0, 0), WILD);
        due("write(0, 3)", x.write(0, 3), 0);
        due("read(0)", x.read(0), 3);
        counts(x, 256, 0, 0, 0, 0, 0, 6, 0, NONE);
    }
}
