/** The sentences of the document that name a boundary of caches, slabs and objects: promises 6 to 9 and 21. */
public final class CacheBoundaryTest {
    private static final int NONE = PageSlabs.NONE, WILD = PageSlabs.WILD, TWICE = PageSlabs.TWICE;
    private static final int LEAST = Integer.MIN_VALUE, MOST = Integer.MAX_VALUE;
    private static final int[] NO_CACHES = {-1, 6, 11, 12, 13, LEAST, MOST, -12, 256, -65536};

    private static final Check check = new Check();

    public static void main(String[] args) {
        cacheSizes();
        cacheAlignments();
        mostCaches();
        cacheNotStarted();
        strides();
        slabOrders();
        firstCaches();
        noSuchCache();
        takeMissed();
        rowAtFirst();
        rowGivenBack();
        leastPagePartlyLive();
        emptyOne();
        giveCounts();
        giveWild();
        giveTwice();
        secondEmpty();
        shrinkPages();
        shrinkNothing();
        figures();
        check.end();
    }

    private static Run made() {
        return new Run(check);
    }

    private static Run started(int from, int to) {
        return made().usable(from, to, true).start(to - from + 1);
    }

    private static void cacheSizes() {
        check.says(6, "NONE: no such size or alignment, there are 12, not started.");
        Run x = started(0, 63);
        x.cache(0, 1, NONE).cache(-1, 1, NONE).cache(1025, 1, NONE).cache(1025, 64, NONE).cache(2048, 8, NONE);
        x.cache(LEAST, 1, NONE).cache(MOST, 1, NONE).cache(MOST, 64, NONE).cache(LEAST, 64, NONE).cache(-1024, 2, NONE);
        x.count(6, 6).ofCache(6, 0, NONE).take(6, NONE);

        check.says(6, "has OBJECTS of a size 1 .. 1024, aligned to 1, 2, 4 .. 64");
        x.cache(1, 1, 6).cache(1024, 64, 7).cache(1, 64, 8).cache(1024, 1, 9).count(6, 10);
    }

    private static void cacheAlignments() {
        check.says(6, "NONE: no such size or alignment, there are 12, not started.");
        Run x = started(0, 63);
        int[] wrong = {0, -1, -2, -4, -64, 3, 5, 6, 7, 9, 12, 24, 31, 33, 48, 63, 65, 66, 96, 127, 128, 256, 1024, 1 << 30, LEAST, MOST};
        for (int align : wrong) {
            x.cache(8, align, NONE);
        }
        x.count(6, 6);

        check.says(6, "has OBJECTS of a size 1 .. 1024, aligned to 1, 2, 4 .. 64");
        for (int i = 0; i < 6; i++) {
            x.cache(5, 1 << i, 6 + i).ofCache(6 + i, 1, 1 << i);
        }
        started(0, 63).cache(5, 64, 6).ofCache(6, 1, 64);
    }

    private static void mostCaches() {
        check.says(6, "A CACHE (12 at most");
        Run x = started(0, 63);
        for (int i = 6; i < 12; i++) {
            x.cache(0, 1, NONE).cache(i, 3, NONE).cache(i, 1, i).count(6, i + 1);
        }
        x.cache(1, 1, NONE).cache(8, 8, NONE).cache(0, 0, NONE).count(6, 12);
        x.figures(11, 11, 1, 11, 0, 5, 0, 0, NONE).ofCache(12, 0, NONE).take(11, 0).take(12, NONE);
    }

    private static void cacheNotStarted() {
        check.says(6, "NONE: no such size or alignment, there are 12, not started.");
        made().usable(0, 63, true).cache(8, 8, NONE).cache(1, 1, NONE).cache(0, 0, NONE).count(6, 6).ofCache(6, 0, NONE)
            .start(64).cache(8, 8, 6).count(6, 7);
        // it needs no page
        made().start(0).cache(1024, 64, 6).count(6, 7).take(6, NONE);
    }

    private static void laidOut(int size, int align, int stride, int order, int objects) {
        started(0, 63).cache(size, align, 6).figures(6, size, align, stride, order, objects, 0, 0, NONE)
            .take(6, 0).order(0, order).figures(6, size, align, stride, order, objects, 1, 1, NONE).count(7, 1 << order);
    }

    private static void strides() {
        check.says(6, "they lie one behind the other, by the size rounded up to that (the STRIDE)");
        laidOut(1, 2, 2, 0, 32);
        laidOut(2, 2, 2, 0, 32);
        laidOut(3, 2, 4, 0, 16);
        laidOut(1, 64, 64, 2, 4);
        laidOut(63, 64, 64, 2, 4);
        laidOut(64, 64, 64, 2, 4);
        laidOut(65, 64, 128, 3, 4);
        laidOut(9, 8, 16, 0, 4);
        laidOut(17, 16, 32, 1, 4);
        laidOut(1023, 64, 1024, 4, 1);
        laidOut(1024, 64, 1024, 4, 1);
        laidOut(1000, 1, 1000, 4, 1);
        started(0, 63).cache(3, 4, 6).takes(6, 0, 4, 8).cache(3, 1, 7).takes(7, 64, 67, 70);
    }

    private static void slabOrders() {
        check.says(6, "blocks of the least order 0 .. 4 that hold at least four, or of 4 if none does");
        laidOut(1, 1, 1, 0, 64);
        laidOut(12, 1, 12, 0, 5);
        laidOut(13, 1, 13, 0, 4);
        laidOut(16, 1, 16, 0, 4);
        laidOut(17, 1, 17, 1, 7);
        laidOut(32, 1, 32, 1, 4);
        laidOut(33, 1, 33, 2, 7);
        laidOut(64, 1, 64, 2, 4);
        laidOut(65, 1, 65, 3, 7);
        laidOut(128, 1, 128, 3, 4);
        laidOut(129, 1, 129, 4, 7);
        laidOut(256, 1, 256, 4, 4);
        laidOut(257, 1, 257, 4, 3);
        laidOut(341, 1, 341, 4, 3);
        laidOut(342, 1, 342, 4, 2);
        laidOut(512, 1, 512, 4, 2);
        laidOut(513, 1, 513, 4, 1);
        laidOut(1024, 1, 1024, 4, 1);
    }

    private static void firstCaches() {
        check.says(21, "0 to 5 are always there, also before the start, for 8, 16, 32, 64, 128, 256 bytes, aligned to as many as these, 64 at most");
        Run x = made();
        x.figures(0, 8, 8, 8, 0, 8, 0, 0, NONE).figures(1, 16, 16, 16, 0, 4, 0, 0, NONE).figures(2, 32, 32, 32, 1, 4, 0, 0, NONE);
        x.figures(3, 64, 64, 64, 2, 4, 0, 0, NONE).figures(4, 128, 64, 128, 3, 4, 0, 0, NONE).figures(5, 256, 64, 256, 4, 4, 0, 0, NONE);
        x.count(6, 6).ofCache(6, 0, NONE).start(0).figures(5, 256, 64, 256, 4, 4, 0, 0, NONE).count(6, 6);
    }

    private static void noSuchCache() {
        Run x = started(0, 63);
        for (int cache : NO_CACHES) {
            check.says(7, "NONE: missed, no such cache.");
            x.take(cache, NONE);
            check.says(8, "WILD (also: no such cache), TWICE.");
            x.give(cache, 0, WILD);
            check.says(9, "NONE: no such cache.");
            x.shrink(cache, NONE);
            check.says(21, "NONE: no such cache, another number.");
            x.ofCache(cache, 0, NONE).ofCache(cache, 7, NONE);
        }
        check.says(7, "NONE: missed, no such cache.");
        x.count(2, 0).count(3, 0).cache(24, 8, 6).take(6, 0).take(7, NONE).give(7, 0, WILD).shrink(7, NONE);
        made().usable(0, 63, true).take(0, NONE).take(5, NONE).take(6, NONE).count(2, 0).ofCache(0, 5, 0);
    }

    private static void takeMissed() {
        check.says(7, "if there is none, a block is taken for a new one (missed: so is the object)");
        started(0, 0).takes(1, 0, 16, 32, 48, NONE).figures(1, 16, 16, 16, 0, 4, 1, 4, NONE).counts(1, 0, 1, 1, 0, 4, 6, 1, NONE)
            .take(0, NONE).count(2, 2).give(1, 32, 3).take(1, 32).take(1, NONE).count(2, 3);
        // pages are free, but no block that is great enough
        started(1, 16).take(5, NONE).ofCache(5, 5, 0).ofCache(5, 7, NONE).count(1, 16).frees(2, 1, 1, 1, 0).count(2, 1).take(4, 512);
        started(0, 63).arm(0, true).take(3, NONE).figures(3, 64, 64, 64, 2, 4, 0, 0, NONE).count(5, 0).take(3, 0);
        // full: the next one is of a new slab
        started(0, 63).takes(2, 0, 32, 64, 96, 128).ofCache(2, 5, 2).count(3, 2);
        started(0, 63).cache(1024, 1, 6).takes(6, 0, 1024, 2048, 3072, NONE).ofCache(6, 5, 4).count(7, 64).count(1, 0);
    }

    private static void rowAtFirst() {
        check.says(7, "free ones stand in a row: at first from the first on");
        started(0, 0).takes(0, 0, 8, 16, 24, 32, 40, 48, 56, NONE);
        started(0, 1).cache(17, 2, 6).takes(6, 0, 18, 36, 54, 72, 90, 108, NONE);
        // so does that of a slab which begins where another one was
        started(0, 0).takes(0, 0, 8, 16).give(0, 0, 2).give(0, 8, 1).give(0, 16, 0).shrink(0, 1).takes(0, 0, 8, 16, 24);
        started(0, 0).takes(0, 0, 8).give(0, 0, 1).give(0, 8, 0).shrink(0, 1).takes(1, 0, 16, 32, 48, NONE)
            .give(1, 0, 3).give(1, 16, 2).give(1, 32, 1).give(1, 48, 0).shrink(1, 1).takes(0, 0, 8, 16, 24, 32, 40, 48, 56, NONE);
    }

    private static void rowGivenBack() {
        check.says(8, "one that is given back comes to its front");
        started(0, 0).takes(0, 0, 8, 16).give(0, 0, 2).give(0, 16, 1).takes(0, 16, 0, 24, 32, 40, 48, 56, NONE);
        started(0, 0).takes(1, 0, 16, 32, 48).give(1, 48, 3).give(1, 0, 2).give(1, 32, 1).takes(1, 32, 0, 48, NONE);
        // an empty slab's row stays as it is
        started(0, 1).takes(0, 0, 8, 16).give(0, 16, 2).give(0, 0, 1).give(0, 8, 0).ofCache(0, 7, 0).takes(0, 8, 0, 16, 24);
        // refused, it does not come to the front
        started(0, 0).takes(0, 0, 8, 16).give(0, 0, 2).give(0, 8, 1).give(0, 0, TWICE).give(0, 40, TWICE).takes(0, 8, 0, 24);
    }

    private static void leastPagePartlyLive() {
        check.says(7, "from the slab of the least page that has free ones and live ones");
        Run x = started(0, 3).takes(1, 0, 16, 32, 48, 64, 80, 96, 112, 128);
        x.give(1, 96, 3).give(1, 16, 3).takes(1, 16, 96, 144).give(1, 112, 3).give(1, 32, 3).takes(1, 32, 112, 160, 176, 192);
        x.count(3, 4).ofCache(1, 5, 4);
        // the least page, though another slab was there earlier
        Run y = started(0, 3).pages(0, 0).takes(1, 64).freePages(0, 1).takes(1, 80, 96, 112, 0).give(1, 64, 3).takes(1, 16, 32, 48, 64);
        y.count(3, 3).take(1, 128);
    }

    private static void emptyOne() {
        check.says(7, "if there is none, from the cache's EMPTY one (that has no live ones)");
        started(0, 3).takes(1, 0, 16, 32, 48, 64).give(1, 64, 0).ofCache(1, 7, 1).take(1, 64).ofCache(1, 7, NONE).count(3, 2)
            .ofCache(1, 5, 2).take(1, 80);
        // one with live ones goes first, though the empty one is of a lesser page
        started(0, 3).takes(1, 0, 16, 32, 48, 64).give(1, 0, 3).give(1, 16, 2).give(1, 32, 1).give(1, 48, 0).ofCache(1, 7, 0)
            .takes(1, 80, 96, 112).ofCache(1, 7, 0).take(1, 48).ofCache(1, 7, NONE).count(3, 2);
        // nothing is missed where an empty one is there
        started(0, 0).take(0, 0).give(0, 0, 0).take(1, NONE).arm(0, true).take(0, 0).count(8, 0).count(2, 1);
        started(0, 15).cache(1024, 1, 6).take(6, 0).give(6, 0, 0).ofCache(6, 7, 0).take(6, 0).ofCache(6, 7, NONE).take(6, NONE);
    }

    private static void giveCounts() {
        check.says(8, "An object is given back: how many the slab has that are live yet");
        Run x = started(255, 255).cache(1, 1, 6);
        for (int i = 0; i < 64; i++) {
            x.take(6, 16320 + i);
        }
        x.take(6, NONE).give(6, 16384, WILD);
        for (int i = 63; i >= 0; i--) {
            x.give(6, 16320 + i, i);
        }
        x.give(6, 16383, TWICE).give(6, 16320, TWICE).ofCache(6, 6, 0).ofCache(6, 7, 255);
        // of its slab, not of the cache
        started(0, 3).takes(1, 0, 16, 32, 48, 64, 80).give(1, 64, 1).give(1, 0, 3).give(1, 80, 0).give(1, 16, 2).ofCache(1, 6, 2);
        started(0, 15).cache(1024, 1, 6).take(6, 0).give(6, 0, 0);
    }

    private static void giveWild() {
        check.says(8, "WILD: it is not where something taken begins (for an object of a cache: one of a slab of it)");
        made().usable(0, 255, true).give(0, 0, WILD).give(5, 16383, WILD).give(0, -1, WILD);
        Run x = started(0, 31).cache(24, 8, 6).take(6, 0).take(1, 128).pages(0, 3);
        int[] wrong = {-1, -24, -64, 16384, 16384 + 24, LEAST, LEAST + 24, MOST, 1 << 20, 1 << 30};
        for (int address : wrong) {
            x.give(6, address, WILD);
        }
        x.give(6, 1, WILD).give(6, 8, WILD).give(6, 23, WILD).give(6, 25, WILD).give(6, 64, WILD);
        // the last object begins at 96; where a sixth would, none does
        x.give(6, 96, TWICE).give(6, 120, WILD).give(6, 127, WILD);
        // a slab of another cache, a taken block, a free one, a page that is not usable
        x.give(6, 128, WILD).give(1, 0, WILD).give(0, 128, WILD).give(6, 192, WILD).give(0, 192, WILD).give(6, 256, WILD)
            .give(0, 1024, WILD).give(6, 2048, WILD).give(0, 16383, WILD);
        x.count(5, 2).count(4, 0).ofCache(6, 6, 1).ofCache(1, 6, 1);
        // the block went: nothing of it is the cache's any more
        started(0, 63).take(0, 0).give(0, 0, 0).give(0, 0, TWICE).shrink(0, 1).give(0, 0, WILD).give(0, 8, WILD);
        started(0, 63).take(0, 0).give(0, 0, 0).shrink(0, 1).take(1, 0).give(0, 0, WILD).give(0, 16, WILD).give(1, 0, 0);
    }

    private static void giveTwice() {
        check.says(8, "TWICE: it is that of a free object of such a slab");
        Run x = started(0, 31).cache(24, 8, 6).takes(6, 0, 24);
        x.give(6, 48, TWICE).give(6, 96, TWICE).give(6, 24, 1).give(6, 24, TWICE).give(6, 0, 0).give(6, 0, TWICE).give(6, 24, TWICE);
        x.count(5, 0).ofCache(6, 5, 1).ofCache(6, 6, 0).ofCache(6, 7, 0).count(4, 0).takes(6, 0, 24).give(6, 48, TWICE);
        // the first page of a free block is TWICE for a page and by size alone
        started(0, 31).give(0, 0, WILD).free(0, TWICE).freePages(0, TWICE);
    }

    private static void secondEmpty() {
        check.says(8, "it is the cache's empty one, but if there is one already, the block is given back");
        Run x = started(0, 3).takes(1, 0, 16, 32, 48, 64);
        x.give(1, 64, 0).ofCache(1, 7, 1).ofCache(1, 5, 2).count(4, 0).count(1, 2);
        x.give(1, 0, 3).give(1, 16, 2).give(1, 32, 1).count(4, 0).give(1, 48, 0).count(4, 1).ofCache(1, 7, 1).ofCache(1, 5, 1);
        x.ofPage(0, 0).ofPage(1, 3).count(1, 3).frees(1, 1, 0).give(1, 48, WILD).give(1, 64, TWICE).free(0, TWICE);
        // it is joined again
        started(0, 31).cache(1000, 1, 6).takes(6, 0, 1024).give(6, 1024, 0).give(6, 0, 0).ofCache(6, 7, 16).frees(0, 0, 0, 0, 1, 0)
            .shrink(6, 16).frees(0, 0, 0, 0, 0, 1).count(4, 2);
        // each cache has one of its own
        started(0, 3).take(0, 0).take(1, 64).give(0, 0, 0).give(1, 64, 0).ofCache(0, 7, 0).ofCache(1, 7, 1).count(4, 0).count(1, 2);
        // taken from again, it is not the empty one: the next that is left is
        started(0, 3).takes(1, 0, 16, 32, 48, 64).give(1, 64, 0).take(1, 64).give(1, 0, 3).give(1, 16, 2).give(1, 32, 1).give(1, 48, 0)
            .ofCache(1, 7, 0).count(4, 0).give(1, 64, 0).ofCache(1, 7, 0).count(4, 1).ofPage(1, 0);
    }

    private static void shrinkPages() {
        check.says(9, "A cache's empty slab goes: how many pages (0: there is none).");
        int[] pages = {1, 1, 2, 4, 8, 16};
        for (int cache = 0; cache < 6; cache++) {
            started(192, 255).shrink(cache, 0).take(cache, 12288).shrink(cache, 0).ofCache(cache, 5, 1).give(cache, 12288, 0)
                .shrink(cache, pages[cache]).shrink(cache, 0).ofCache(cache, 5, 0).ofCache(cache, 7, NONE)
                .frees(0, 0, 0, 0, 0, 0, 1).count(4, 1).count(1, 64).ofPage(192, 0);
        }
        // slabs with live ones stay, and so does another cache's
        started(0, 3).takes(1, 0, 16, 32, 48, 64).give(1, 64, 0).shrink(1, 1).ofCache(1, 5, 1).ofCache(1, 6, 4).give(1, 0, 3);
        started(0, 3).take(0, 0).take(1, 64).give(0, 0, 0).give(1, 64, 0).shrink(1, 1).ofCache(0, 7, 0).ofPage(0, 2).shrink(1, 0).shrink(0, 1);
    }

    private static void shrinkNothing() {
        check.says(9, "how many pages (0: there is none). NONE: no such cache.");
        Run x = made();
        for (int cache = 0; cache < 6; cache++) {
            x.shrink(cache, 0);
        }
        x.shrink(6, NONE).shrink(-1, NONE).start(0).shrink(0, 0).shrink(5, 0).shrink(6, NONE).cache(1, 1, 6).shrink(6, 0).shrink(7, NONE);
        x.count(4, 0);
    }

    private static void figures() {
        check.says(21, "5 slabs, 6 live objects, 7 the page of its empty slab (NONE). NONE: no such cache, another number.");
        Run x = started(0, 3);
        int[] others = {-1, 8, 9, -8, 256, LEAST, MOST};
        for (int what : others) {
            x.ofCache(0, what, NONE).ofCache(6, what, NONE);
        }
        x.takes(1, 0, 16, 32, 48).figures(1, 16, 16, 16, 0, 4, 1, 4, NONE, NONE).take(1, 64).figures(1, 16, 16, 16, 0, 4, 2, 5, NONE);
        x.give(1, 64, 0).figures(1, 16, 16, 16, 0, 4, 2, 4, 1).shrink(1, 1).figures(1, 16, 16, 16, 0, 4, 1, 4, NONE);
        x.give(1, 0, 3).give(1, 16, 2).give(1, 32, 1).give(1, 48, 0).figures(1, 16, 16, 16, 0, 4, 1, 0, 0);
        x.give(1, 48, TWICE).figures(1, 16, 16, 16, 0, 4, 1, 0, 0).alloc(16, 48).figures(1, 16, 16, 16, 0, 4, 1, 1, NONE);
    }
}
