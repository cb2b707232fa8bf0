/** The sentences of the document that name a boundary of memory, pages and blocks: promises 1 to 5 and 16 to 20. */
public final class BlockBoundaryTest {
    private static final int NONE = PageSlabs.NONE, WILD = PageSlabs.WILD, TWICE = PageSlabs.TWICE;
    private static final int LEAST = Integer.MIN_VALUE, MOST = Integer.MAX_VALUE;
    /** No pages; the last ones wrap around to page 0 or 64 where they are multiplied by a page's bytes. */
    private static final int[] NO_PAGES = {-1, 256, -64, -256, 257, LEAST, MOST, 1 << 26, -(1 << 26), (1 << 26) + 64};

    private static final Check check = new Check();

    public static void main(String[] args) {
        newObject();
        lastCall();
        usableRanges();
        usableRefused();
        neverGivenOut();
        startCounts();
        startTwice();
        startBlocks();
        pagesRefused();
        pagesOfEachOrder();
        pagesMissed();
        leastOrderThenLeastPage();
        halved();
        freePagesCounts();
        freePagesWild();
        freePagesTwice();
        joined();
        notJoined();
        armRange();
        armedTakings();
        armedMiss();
        armedTakesBlocksAlone();
        ofPage();
        blockAndOrder();
        freeBlocks();
        check.end();
    }

    private static Run made() {
        return new Run(check);
    }

    private static Run started(int from, int to) {
        return made().usable(from, to, true).start(to - from + 1);
    }

    private static void newObject() {
        check.says(1, "Not started, nothing usable.");
        made().usable(0, 0, true).start(1);
        made().start(0);
        made().count(0, 0).count(1, 0).count(7, 0).ofPage(0, -1).ofPage(255, -1).block(0, NONE).order(255, NONE);
        made().pages(0, NONE).alloc(1, NONE).take(0, NONE).cache(1, 1, NONE).count(2, 0);

        check.says(1, "ranges of pages are told that are USABLE (none at first)");
        made().start(0).pages(0, NONE).pages(6, NONE).alloc(1, NONE).alloc(4096, NONE).take(0, NONE).count(2, 5)
            .frees(0, 0, 0, 0, 0, 0, 0).freePages(0, WILD).free(0, WILD);
    }

    private static void lastCall() {
        check.says(1, "An object is used for at most 512 calls after it has been made");
        Run x = started(0, 63);
        for (int i = 0; i < 85; i++) {
            x.pages(6, 0).pages(0, NONE).freePages(0, 64).take(0, 0).give(0, 0, 0).shrink(0, 1);
        }
        check.due("the calls that are left", x.callsLeft(), 0);
    }

    private static void usableRanges() {
        check.says(2, "Pages from .. to are usable.");
        made().usable(0, 0, true).count(0, 1).start(1).ofPage(0, 0).ofPage(1, -1);
        made().usable(255, 255, true).count(0, 1).start(1).ofPage(255, 0).ofPage(254, -1);
        made().usable(0, 255, true).count(0, 256).start(256).ofPage(0, 0).ofPage(255, 0);
        made().usable(7, 9, true).start(3).ofPage(6, -1).ofPage(7, 0).ofPage(8, 0).ofPage(9, 0).ofPage(10, -1);
        // told again, they are no more
        made().usable(3, 3, true).usable(3, 3, true).count(0, 1).usable(0, 5, true).count(0, 6).usable(5, 6, true).count(0, 7).start(7);
    }

    private static void usableRefused() {
        check.says(2, "False: started, none such, from above to.");
        Run x = made();
        x.usable(-1, 0, false).usable(-1, -1, false).usable(0, 256, false).usable(255, 256, false).usable(256, 256, false);
        x.usable(1, 0, false).usable(255, 0, false).usable(255, 254, false).usable(0, -1, false).usable(256, 255, false);
        x.usable(LEAST, MOST, false).usable(MOST, LEAST, false).usable(0, MOST, false).usable(LEAST, 255, false);
        x.usable(LEAST, LEAST, false).usable(MOST, MOST, false).usable(255, LEAST, false).usable(256, 511, false);
        x.count(0, 0).usable(4, 4, true).start(1);
        x.usable(4, 4, false).usable(5, 5, false).usable(0, 255, false).usable(-1, 0, false).usable(5, 4, false);
        x.count(0, 1).count(1, 1).ofPage(5, -1).ofPage(0, -1);
        made().start(0).usable(0, 0, false).count(0, 0);
    }

    private static void neverGivenOut() {
        check.says(2, "the others are never given out");
        Run x = made().usable(3, 6, true).usable(255, 255, true).start(5);
        x.pages(0, 3).pages(0, 6).pages(0, 255).pages(0, 4).pages(0, 5).pages(0, NONE).take(0, NONE).alloc(1, NONE);
        x.ofPage(2, -1).ofPage(7, -1).ofPage(254, -1).count(1, 0).count(7, 5);
        x.freePages(4, 1).freePages(5, 1).freePages(6, 1).freePages(3, 1).frees(2, 1, 0).pages(2, NONE);
        made().usable(0, 62, true).usable(64, 127, true).start(127).pages(6, 64).pages(6, NONE);
    }

    private static void startCounts() {
        check.says(3, "Starts: how many pages are usable.");
        made().start(0).count(0, 0);
        made().usable(200, 200, true).start(1).count(0, 1).count(1, 1);
        made().usable(0, 255, true).start(256).count(1, 256);
        made().usable(0, 127, true).usable(64, 191, true).usable(255, 255, true).start(193).count(1, 193);
    }

    private static void startTwice() {
        check.says(3, "NONE: it is started.");
        made().start(0).start(NONE).start(NONE);
        Run x = started(0, 3).start(NONE).pages(0, 0).take(0, 64).start(NONE);
        x.counts(4, 2, 0, 2, 0, 1, 6, 2, NONE).frees(0, 1, 0).ofPage(0, 1).ofPage(1, 2).start(NONE);
    }

    private static void startBlocks() {
        check.says(3, "At the start free blocks are the greatest ones (order 6 at most) that are wholly usable.");
        started(0, 255).frees(0, 0, 0, 0, 0, 0, 4).block(255, 192).block(192, 192).block(191, 128).order(0, 6);
        started(0, 63).frees(0, 0, 0, 0, 0, 0, 1);
        started(0, 62).frees(1, 1, 1, 1, 1, 1, 0).block(62, 62).block(61, 60).block(59, 56).block(31, 0);
        started(1, 63).frees(1, 1, 1, 1, 1, 1, 0).block(1, 1).block(3, 2).block(63, 32);
        started(0, 64).frees(1, 0, 0, 0, 0, 0, 1).order(64, 0);
        // as many pages, but none of them begins where a greater block may
        started(32, 95).frees(0, 0, 0, 0, 0, 2, 0);
        started(1, 2).frees(2, 0);
        started(2, 5).frees(0, 2, 0);
        started(254, 255).frees(0, 1, 0).block(255, 254);
        made().usable(32, 63, true).usable(0, 31, true).start(64).frees(0, 0, 0, 0, 0, 0, 1);
        made().usable(0, 0, true).usable(2, 2, true).start(2).frees(2, 0, 0);
    }

    private static void pagesRefused() {
        check.says(4, "NONE: missed, no such order, not started.");
        made().usable(0, 255, true).pages(0, NONE).pages(6, NONE).pages(7, NONE).count(2, 0).count(3, 0).start(256).pages(6, 0);
        Run x = started(0, 255).arm(9, true);
        x.pages(-1, NONE).pages(7, NONE).pages(8, NONE).pages(31, NONE).pages(32, NONE).pages(64, NONE).pages(LEAST, NONE).pages(MOST, NONE);
        // no such order is no miss, and no taking
        x.count(2, 0).count(3, 0).count(8, 9).frees(0, 0, 0, 0, 0, 0, 4);
    }

    private static void pagesOfEachOrder() {
        check.says(4, "A block of an order (0 .. 6) is taken: its first page.");
        for (int order = 0; order <= 6; order++) {
            started(192, 255).pages(order, 192).order(192, order).ofPage(191 + (1 << order), 1)
                .ofPage((192 + (1 << order)) % 256, order == 6 ? -1 : 0).count(7, 1 << order).count(3, 1);
        }
        started(0, 255).pages(6, 0).pages(6, 64).pages(6, 128).pages(6, 192).pages(6, NONE).pages(0, NONE).count(1, 0).count(7, 256);
    }

    private static void pagesMissed() {
        check.says(4, "If there is none: it is MISSED.");
        started(9, 9).pages(1, NONE).count(2, 1).frees(1, 0).pages(0, 9).pages(0, NONE).count(2, 2).count(3, 1);
        // many pages are free, but not together
        Run x = started(0, 7);
        x.pages(0, 0).pages(0, 1).pages(0, 2).pages(0, 3).pages(0, 4).pages(0, 5).pages(0, 6).pages(0, 7);
        x.freePages(1, 1).freePages(2, 1).freePages(5, 1).freePages(6, 1).count(1, 4).frees(4, 0);
        x.pages(1, NONE).pages(2, NONE).count(2, 2).frees(4, 0).count(1, 4).pages(0, 1);
    }

    private static void leastOrderThenLeastPage() {
        check.says(4, "of the free blocks of the least order not below it that has any, the one of the least page");
        // free: 1 (order 0), 2 (1), 4 (2), 8 (3), 16 (order 0)
        started(1, 16).frees(2, 1, 1, 1, 0).pages(1, 2).pages(1, 4).pages(0, 1).pages(0, 16).pages(0, 6).pages(3, 8).pages(2, NONE);
        // a lower order goes first, though its page is higher
        started(0, 16).pages(0, 16).pages(0, 0);
        started(0, 16).pages(1, 0).pages(0, 16).pages(0, 2);
        // of one order the least page, though another was given back later
        Run x = started(0, 7).pages(0, 0).pages(0, 1).pages(0, 2).pages(0, 3).pages(0, 4).pages(0, 5);
        x.freePages(2, 1).freePages(0, 1).freePages(4, 1).pages(0, 0).pages(0, 2).pages(0, 4).pages(0, 6);
    }

    private static void halved() {
        check.says(4, "As long as it is too great, its second half is free, and the first one is gone on with.");
        started(64, 127).pages(0, 64).frees(1, 1, 1, 1, 1, 1, 0).block(65, 65).block(67, 66).block(71, 68).block(79, 72)
            .block(95, 80).block(127, 96).count(1, 63);
        started(64, 127).pages(5, 64).frees(0, 0, 0, 0, 0, 1, 0).block(127, 96);
        started(64, 127).pages(6, 64).frees(0, 0, 0, 0, 0, 0, 0);
    }

    private static void freePagesCounts() {
        check.says(5, "A block is given back, by its first page: how many pages; WILD, TWICE.");
        for (int order = 0; order <= 6; order++) {
            started(192, 255).pages(order, 192).freePages(192, 1 << order).frees(0, 0, 0, 0, 0, 0, 1).count(4, 1).count(1, 64);
        }
        started(0, 63).alloc(257, 0).freePages(0, 8).freePages(0, TWICE);
        // a half is given back as it was taken
        started(0, 63).pages(3, 0).pages(3, 8).freePages(8, 8).freePages(0, 8);
    }

    private static void freePagesWild() {
        check.says(5, "WILD: it is not where something taken begins (for a page: a taken block that is no slab");
        made().usable(0, 255, true).freePages(0, WILD).freePages(255, WILD).freePages(-1, WILD).freePages(256, WILD);
        Run x = started(0, 31);
        for (int page : NO_PAGES) {
            x.freePages(page, WILD);
        }
        x.freePages(32, WILD).freePages(255, WILD).freePages(1, WILD).freePages(16, WILD);
        x.pages(2, 0).freePages(1, WILD).freePages(2, WILD).freePages(3, WILD);
        x.take(1, 256).freePages(4, WILD).give(1, 256, 0).freePages(4, WILD);
        x.take(3, 512).freePages(8, WILD).freePages(9, WILD).cache(1, 1, 6).take(6, 320).freePages(5, WILD);
        x.count(4, 0).count(3, 4).ofPage(0, 1).ofPage(4, 3).ofPage(5, 8).ofPage(8, 5);
    }

    private static void freePagesTwice() {
        check.says(5, "TWICE: it is that of a free object of such a slab, or of the first page of a free block (for a page, or by size).");
        started(0, 255).freePages(0, TWICE).freePages(192, TWICE).freePages(32, WILD).freePages(191, WILD);
        started(255, 255).freePages(255, TWICE).pages(0, 255).freePages(255, 1).freePages(255, TWICE).freePages(255, TWICE).count(4, 1);
        // joined with the half before it, its page is the first of no block any more; with the half behind it, it is
        Run x = started(0, 3).pages(1, 0).pages(1, 2);
        x.freePages(0, 2).freePages(0, TWICE).freePages(2, 2).freePages(2, WILD).freePages(0, TWICE).count(1, 4).count(4, 2);
        started(0, 3).pages(1, 0).freePages(2, TWICE).freePages(3, WILD).freePages(0, 2).freePages(0, TWICE).freePages(2, WILD);
        // what was a slab is a free block like others, once it went
        started(0, 0).take(0, 0).give(0, 0, 0).freePages(0, WILD).shrink(0, 1).freePages(0, TWICE);
    }

    private static void joined() {
        check.says(5, "as long as its order is below 6 and its buddy is free (of that order): both are one, of the next order.");
        started(0, 63).pages(0, 0).freePages(0, 1).frees(0, 0, 0, 0, 0, 0, 1).block(63, 0);
        started(64, 127).pages(5, 64).pages(5, 96).freePages(64, 32).frees(0, 0, 0, 0, 0, 1, 0).freePages(96, 32)
            .frees(0, 0, 0, 0, 0, 0, 1).block(96, 64).order(127, 6);
        // order 6 is the greatest: two of them side by side stay two
        Run x = started(0, 127).pages(6, 0).pages(6, 64);
        x.freePages(0, 64).frees(0, 0, 0, 0, 0, 0, 1).freePages(64, 64).frees(0, 0, 0, 0, 0, 0, 2);
        x.block(64, 64).block(63, 0).order(64, 6).order(0, 6).freePages(64, TWICE);
    }

    private static void notJoined() {
        check.says(5, "its BUDDY is the other block of that order with which it makes one of the next");
        // 1 and 2 are side by side, but no buddies
        started(0, 3).pages(0, 0).pages(0, 1).pages(0, 2).pages(0, 3).freePages(1, 1).freePages(2, 1).frees(2, 0, 0).block(2, 2)
            .freePages(0, 1).frees(1, 1, 0).block(1, 0).freePages(3, 1).frees(0, 0, 1);
        // the buddy begins with a free block, but of a lower order
        Run x = started(0, 3).pages(1, 0).pages(0, 2).pages(0, 3);
        x.freePages(2, 1).freePages(0, 2).frees(1, 1, 0).order(0, 1).freePages(3, 1).frees(0, 0, 1).order(0, 2);
        // the buddy is not usable, or not wholly
        started(2, 2).pages(0, 2).freePages(2, 1).frees(1, 0);
        started(0, 2).pages(1, 0).freePages(0, 2).frees(1, 1, 0);
        // the buddy is taken, or a slab, be it empty
        started(0, 1).pages(0, 0).pages(0, 1).freePages(1, 1).frees(1, 0).freePages(0, 1).frees(0, 1);
        started(0, 1).pages(0, 0).take(0, 64).give(0, 64, 0).freePages(0, 1).frees(1, 0).shrink(0, 1).frees(0, 1);
    }

    private static void armRange() {
        check.says(16, "Misses are armed (n 0 .. 100). False: not such.");
        Run x = started(0, 63).count(8, NONE);
        x.arm(-1, false).arm(101, false).arm(LEAST, false).arm(MOST, false).arm(256, false).arm(-100, false).count(8, NONE);
        x.arm(0, true).count(8, 0).arm(100, true).count(8, 100).arm(101, false).arm(-1, false).count(8, 100);
        // armed anew: the last word holds
        x.arm(1, true).count(8, 1).pages(0, 0).pages(0, NONE).pages(0, 1);
        x.arm(0, true).arm(2, true).pages(0, 2).pages(0, 3).pages(0, NONE).count(8, NONE).count(2, 2);
        made().arm(0, true).count(8, 0).usable(0, 0, true).start(1).count(8, 0).pages(0, NONE).pages(0, 0);
    }

    private static void armedTakings() {
        check.says(16, "When misses are ARMED with n, n takings more go on so (one for which nothing is free counts, too)");
        Run most = started(0, 255).arm(100, true);
        for (int i = 0; i < 100; i++) {
            most.count(8, 100 - i).pages(0, i);
        }
        most.count(8, 0).count(2, 0).pages(0, NONE).count(8, NONE).count(2, 1).pages(0, 100);
        started(0, 0).arm(3, true).pages(1, NONE).count(8, 2).pages(6, NONE).count(8, 1).pages(0, 0).count(8, 0).freePages(0, 1)
            .count(8, 0).pages(0, NONE).count(8, NONE).count(2, 3).pages(0, 0);
    }

    private static void armedMiss() {
        check.says(16, "the next one is missed whatever is free, and nothing is armed any more");
        started(0, 255).arm(0, true).pages(6, NONE).counts(256, 256, 1, 0, 0, 0, 6, 0, NONE).frees(0, 0, 0, 0, 0, 0, 4).pages(6, 0);
        // nothing is free either: one miss, not two
        started(0, 0).arm(0, true).pages(1, NONE).count(2, 1).count(8, NONE).pages(0, 0);
        started(0, 63).arm(0, true).take(0, NONE).count(8, NONE).count(2, 1).ofCache(0, 5, 0).take(0, 0);
        started(0, 63).arm(0, true).alloc(300, NONE).count(8, NONE).count(2, 1).alloc(300, 0);
        started(0, 63).alloc(300, 0).arm(0, true).resize(0, 600, NONE).count(8, NONE).count(2, 1).size(0, 512).resize(0, 600, 1024);
    }

    private static void armedTakesBlocksAlone() {
        check.says(16, "TO TAKE a block of an order: [..] n takings more go on so");
        Run x = started(0, 63).take(0, 0).arm(0, true);
        x.takes(0, 8, 16).give(0, 16, 2).alloc(8, 16).resize(16, 7, 16).free(16, 8).count(8, 0);
        x.pages(7, NONE).pages(-1, NONE).alloc(0, NONE).alloc(4097, NONE).take(6, NONE).resize(0, 0, NONE).freePages(1, TWICE);
        x.count(8, 0).count(2, 0).take(1, NONE).count(8, NONE).count(2, 1);
        Run more = started(0, 63).arm(3, true).take(0, 0).count(8, 2).takes(0, 8, 16).alloc(8, 24).give(0, 0, 3).take(0, 0).count(8, 2);
        more.alloc(300, 512).count(8, 1).resize(512, 400, 512).count(8, 1).resize(512, 8, 32).count(8, 1).freePages(8, TWICE).shrink(0, 0);
        more.resize(32, 16, 64).count(8, 0).give(1, 64, 0).take(1, 64).count(8, 0).resize(64, 32, NONE).count(8, NONE).count(2, 1);
        // before the start nothing is taken
        made().usable(0, 63, true).arm(0, true).pages(0, NONE).take(0, NONE).alloc(1, NONE).alloc(999, NONE).count(8, 0).count(2, 0)
            .start(64).count(8, 0).pages(0, NONE).count(8, NONE);
    }

    private static void ofPage() {
        check.says(17, "-1 not usable (or not started), 0 a part of a free block, 1 of a taken one, 2 + c of a slab of cache c. -2: no such page.");
        Run x = made().usable(0, 31, true).ofPage(0, -1).ofPage(31, -1).ofPage(32, -1).ofPage(255, -1);
        for (int page : NO_PAGES) {
            x.ofPage(page, -2);
        }
        x.start(32).ofPage(0, 0).ofPage(31, 0).ofPage(32, -1).ofPage(255, -1);
        for (int page : NO_PAGES) {
            x.ofPage(page, -2);
        }
        x.pages(3, 0).ofPage(0, 1).ofPage(7, 1).ofPage(8, 0).take(0, 512).ofPage(8, 2).ofPage(9, 0);
        x.take(4, 1024).ofPage(16, 6).ofPage(23, 6).ofPage(24, 0).give(4, 1024, 0).ofPage(23, 6).shrink(4, 8).ofPage(23, 0).ofPage(16, 0);
        for (int cache = 6; cache < 12; cache++) {
            x.cache(1, 1, cache);
        }
        x.take(11, 576).ofPage(9, 13).freePages(0, 8).ofPage(0, 0).ofPage(7, 0);
    }

    private static void blockAndOrder() {
        Run x = made().usable(1, 62, true);
        check.says(18, "The first page of the block that a usable page belongs to (free or taken); NONE.");
        x.block(1, NONE).block(62, NONE);
        check.says(19, "The order of that block; NONE.");
        x.order(1, NONE).order(62, NONE);
        x.start(62);
        for (int page : NO_PAGES) {
            check.says(18, "The first page of the block that a usable page belongs to (free or taken); NONE.");
            x.block(page, NONE);
            check.says(19, "The order of that block; NONE.");
            x.order(page, NONE);
        }
        check.says(18, "The first page of the block that a usable page belongs to (free or taken); NONE.");
        x.block(0, NONE).block(63, NONE).block(255, NONE).block(1, 1).block(62, 62).block(31, 16).block(47, 32);
        check.says(19, "The order of that block; NONE.");
        x.order(0, NONE).order(63, NONE).order(255, NONE).order(1, 0).order(62, 0).order(31, 4).order(47, 4);
        x.pages(4, 16).take(5, 2048);
        check.says(18, "The first page of the block that a usable page belongs to (free or taken); NONE.");
        x.block(31, 16).block(47, 32).block(48, 48);
        started(192, 255).block(255, 192).pages(6, 192).block(255, 192).block(192, 192);
        check.says(19, "The order of that block; NONE.");
        x.order(31, 4).order(47, 4).order(48, 3);
        started(192, 255).order(255, 6).pages(6, 192).order(255, 6).freePages(192, 64).pages(0, 192).order(192, 0).order(255, 5);
    }

    private static void freeBlocks() {
        check.says(20, "How many free blocks an order has. NONE: no such order.");
        Run x = made().usable(0, 255, true);
        x.frees(0, 0, 0, 0, 0, 0, 0).freeBlocks(-1, NONE).freeBlocks(7, NONE).start(256).frees(0, 0, 0, 0, 0, 0, 4);
        x.freeBlocks(-1, NONE).freeBlocks(7, NONE).freeBlocks(LEAST, NONE).freeBlocks(MOST, NONE).freeBlocks(64, NONE);
        x.pages(6, 0).pages(6, 64).pages(6, 128).pages(6, 192).frees(0, 0, 0, 0, 0, 0, 0);
        Run most = started(0, 255);
        for (int page = 0; page < 128; page++) {
            most.pages(0, page);
        }
        for (int page = 0; page < 128; page += 2) {
            most.freePages(page, 1);
        }
        most.frees(64, 0, 0, 0, 0, 0, 2).freePages(127, 1).frees(63, 1, 0, 0, 0, 0, 2);
    }
}
