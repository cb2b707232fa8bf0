/** The sentences of the document that name a boundary of the counts, promise 22, and of what is there before the start. */
public final class CountBoundaryTest {
    private static final int NONE = PageSlabs.NONE, WILD = PageSlabs.WILD, TWICE = PageSlabs.TWICE;
    private static final int LEAST = Integer.MIN_VALUE, MOST = Integer.MAX_VALUE;

    private static final Check check = new Check();

    public static void main(String[] args) {
        otherNumbers();
        pageCounts();
        misses();
        takenAndGivenBack();
        liveObjects();
        cacheCount();
        mostPages();
        armed();
        beforeTheStart();
        check.end();
    }

    private static Run made() {
        return new Run(check);
    }

    private static Run started(int from, int to) {
        return made().usable(from, to, true).start(to - from + 1);
    }

    private static void otherNumbers() {
        check.says(22, "NONE: another number.");
        made().count(-1, NONE).count(9, NONE).count(10, NONE).count(LEAST, NONE).count(MOST, NONE).count(256, NONE);
        started(0, 255).arm(3, true).count(-1, NONE).count(9, NONE).count(-8, NONE).count(65536, NONE);
        made().counts(0, 0, 0, 0, 0, 0, 6, 0, NONE);
    }

    private static void pageCounts() {
        check.says(22, "0 usable pages, 1 pages of free blocks");
        made().usable(0, 255, true).count(0, 256).count(1, 0).start(256).count(0, 256).count(1, 256);
        started(0, 255).pages(6, 0).pages(6, 64).pages(6, 128).count(1, 64).pages(6, 192).count(1, 0).count(0, 256).freePages(64, 64).count(1, 64);
        // an empty slab's pages are not free
        started(0, 7).take(2, 0).count(1, 6).give(2, 0, 0).count(1, 6).shrink(2, 2).count(1, 8);
        made().count(0, 0).usable(1, 1, true).count(0, 1).usable(1, 2, true).count(0, 2).usable(3, 2, false).count(0, 2).start(2).count(1, 2);
    }

    private static void misses() {
        check.says(22, "2 misses");
        Run x = started(0, 0).pages(1, NONE).count(2, 1).take(2, NONE).count(2, 2).alloc(300, NONE).count(2, 3).alloc(32, NONE).count(2, 4);
        x.pages(0, 0).resize(0, 8, NONE).count(2, 5).resize(0, 300, NONE).count(2, 6);
        // what is refused is not missed
        x.pages(7, NONE).pages(-1, NONE).take(6, NONE).alloc(0, NONE).alloc(4097, NONE).resize(0, 0, NONE).resize(1, 8, WILD).cache(0, 1, NONE)
            .freePages(1, WILD).free(9, WILD).give(0, 0, WILD).count(2, 6);
        made().usable(0, 0, true).pages(1, NONE).take(2, NONE).alloc(300, NONE).count(2, 0);
    }

    private static void takenAndGivenBack() {
        check.says(22, "3 blocks taken in all, 4 given back in all");
        Run x = started(0, 15).count(3, 0).count(4, 0).pages(0, 0).count(3, 1).pages(4, NONE).count(3, 1).freePages(0, 1).count(3, 1).count(4, 1);
        x.freePages(0, TWICE).freePages(1, WILD).count(4, 1).take(0, 0).count(3, 2).take(0, 8).alloc(1, 16).count(3, 2);
        x.give(0, 0, 2).give(0, 8, 1).free(16, 8).count(4, 1).take(0, 16).count(3, 2).give(0, 16, 0).shrink(0, 1).count(4, 2).shrink(0, 0).count(4, 2);
        x.alloc(512, 0).count(3, 3).resize(0, 400, 0).count(3, 3).count(4, 2).resize(0, 256, NONE).count(3, 3).resize(0, 16, 512).count(3, 4).count(4, 3);
        // a second empty slab
        started(0, 1).takes(1, 0, 16, 32, 48, 64).count(3, 2).give(1, 64, 0).count(4, 0).give(1, 0, 3).give(1, 16, 2).give(1, 32, 1).give(1, 48, 0).count(4, 1);
    }

    private static void liveObjects() {
        check.says(22, "5 live objects");
        Run x = started(0, 63).count(5, 0).take(0, 0).take(5, 1024).count(5, 2);
        for (int cache = 6; cache < 12; cache++) {
            x.cache(1, 1, cache);
        }
        x.take(6, 64).take(11, 128).count(5, 4).alloc(8, 8).count(5, 5).pages(0, 3).alloc(300, 512).count(5, 5);
        x.give(11, 128, 0).count(5, 4).give(11, 128, TWICE).count(5, 4).shrink(11, 1).count(5, 4).resize(512, 8, 16).count(5, 5);
        x.resize(16, 300, 512).count(5, 4).free(8, 8).free(0, 8).give(6, 64, 0).give(5, 1024, 0).count(5, 0);
    }

    private static void cacheCount() {
        check.says(22, "6 caches");
        Run x = made().count(6, 6).cache(1, 1, NONE).count(6, 6).start(0).count(6, 6).cache(1, 3, NONE).count(6, 6);
        for (int cache = 6; cache < 12; cache++) {
            x.cache(1, 1, cache).count(6, cache + 1);
        }
        x.cache(1, 1, NONE).count(6, 12);
    }

    private static void mostPages() {
        check.says(22, "7 the most pages that ever were not free at a time");
        started(0, 255).count(7, 0).pages(6, 0).pages(6, 64).pages(6, 128).count(7, 192).pages(6, 192).count(7, 256).freePages(0, 64).count(7, 256);
        Run x = started(0, 15).pages(1, 0).count(7, 2).pages(0, 2).count(7, 3).freePages(0, 2).count(7, 3).pages(0, 3).count(7, 3).pages(0, 0).count(7, 3);
        x.pages(0, 1).count(7, 4).pages(4, NONE).count(7, 4).freePages(2, 1).freePages(3, 1).freePages(0, 1).freePages(1, 1).count(7, 4);
        // a slab is not free, be it empty; an object more in it is no page more
        x.take(3, 0).count(7, 4).take(4, 512).count(7, 12).take(4, 640).count(7, 12).give(3, 0, 0).pages(2, 4).count(7, 16);
        // resize has both for a while
        started(0, 31).alloc(512, 0).count(7, 8).resize(0, 1024, 1024).count(7, 24).count(1, 16);
        started(0, 15).alloc(512, 0).resize(0, 8, 512).count(7, 9).count(1, 15);
        // missed, it had none
        started(0, 15).alloc(512, 0).resize(0, 1024, NONE).count(7, 8);
        made().usable(9, 9, true).count(7, 0).start(1).count(7, 0).pages(0, 9).count(7, 1);
    }

    private static void armed() {
        check.says(22, "8 what is armed (NONE)");
        made().count(8, NONE).arm(7, true).count(8, 7).arm(101, false).count(8, 7).start(0).count(8, 7);
        started(0, 0).arm(1, true).pages(0, 0).count(8, 0).pages(0, NONE).count(8, NONE).pages(0, NONE).count(8, NONE).arm(0, true).count(8, 0);
    }

    private static void beforeTheStart() {
        Run x = made().usable(0, 255, true);
        check.says(4, "Before the start nothing is taken or given");
        x.pages(0, NONE).pages(6, NONE);
        check.says(7, "Before the start nothing is taken or given");
        x.take(0, NONE).take(5, NONE);
        check.says(10, "Before the start nothing is taken or given");
        x.alloc(1, NONE).alloc(4096, NONE);
        check.says(9, "Before the start nothing is taken or given");
        x.shrink(0, 0).shrink(5, 0);
        check.says(5, "what is given back, or asked for by an address, is WILD");
        x.freePages(0, WILD).freePages(255, WILD);
        check.says(8, "what is given back, or asked for by an address, is WILD");
        x.give(0, 0, WILD).give(5, 16320, WILD);
        check.says(11, "what is given back, or asked for by an address, is WILD");
        x.free(0, WILD).free(16320, WILD);
        check.says(12, "what is given back, or asked for by an address, is WILD");
        x.resize(0, 1, WILD).resize(0, 4096, WILD).resize(0, 0, WILD);
        check.says(13, "what is given back, or asked for by an address, is WILD");
        x.size(0, WILD).size(16320, WILD);
        check.says(22, "Before the start nothing is taken or given");
        x.counts(256, 0, 0, 0, 0, 0, 6, 0, NONE).start(256).counts(256, 256, 0, 0, 0, 0, 6, 0, NONE).pages(6, 0);
    }
}
