/** The sentences of the document that name a boundary of what is taken by size, and of bytes: promises 10 to 15. */
public final class SizeBoundaryTest {
    private static final int NONE = PageSlabs.NONE, WILD = PageSlabs.WILD, TWICE = PageSlabs.TWICE;
    private static final int LEAST = Integer.MIN_VALUE, MOST = Integer.MAX_VALUE;
    private static final int[] NO_ADDRESSES = {-1, -8, -64, 16384, 16385, 16384 + 64, LEAST, LEAST + 64, MOST, 1 << 20, 1 << 30};
    private static final int[] NO_BYTES = {0, -1, 4097, -4096, LEAST, MOST, 8192, 65536 + 8};
    private static final int[] CLASS_BYTES = {8, 16, 32, 64, 128, 256};

    private static final Check check = new Check();

    public static void main(String[] args) {
        allocRange();
        allocMissed();
        allocObjects();
        allocBlocks();
        freeBytes();
        freeWild();
        freeTwice();
        resizeLooksFirst();
        resizeNone();
        resizeStays();
        resizeGoes();
        resizeCopies();
        resizeGivesBack();
        sizeOf();
        addresses();
        lowestBits();
        check.end();
    }

    private static Run made() {
        return new Run(check);
    }

    private static Run started(int from, int to) {
        return made().usable(from, to, true).start(to - from + 1);
    }

    private static void allocRange() {
        check.says(10, "NONE: missed, not 1 .. 4096, not started.");
        Run x = started(0, 255).arm(5, true);
        for (int bytes : NO_BYTES) {
            x.alloc(bytes, NONE);
        }
        x.count(2, 0).count(3, 0).count(8, 5).alloc(1, 0).alloc(4096, 4096);
        made().usable(0, 255, true).alloc(1, NONE).alloc(256, NONE).alloc(257, NONE).alloc(4096, NONE).alloc(0, NONE).count(2, 0)
            .start(256).alloc(4096, 0);
    }

    private static void allocMissed() {
        check.says(10, "NONE: missed, not 1 .. 4096, not started.");
        made().start(0).alloc(1, NONE).alloc(256, NONE).alloc(257, NONE).alloc(4096, NONE).count(2, 4);
        started(0, 62).alloc(4096, NONE).alloc(2048, 0).count(2, 1);
        // an object of another cache is no help, nor are free pages of too low an order
        started(0, 0).alloc(8, 0).alloc(16, NONE).alloc(9, NONE).alloc(8, 8).count(2, 2);
        started(1, 15).alloc(256, NONE).alloc(129, NONE).alloc(128, 512).count(2, 2).count(1, 7);
        started(0, 63).arm(0, true).alloc(1, NONE).alloc(1, 0).arm(0, true).alloc(257, NONE).alloc(257, 512).count(2, 2);
    }

    private static void allocObjects() {
        check.says(10, "1 .. 256 bytes: an object of the first of caches 0 to 5 that is great enough");
        for (int c = 0; c < 6; c++) {
            int least = c == 0 ? 1 : CLASS_BYTES[c - 1] + 1;
            started(0, 63).alloc(least, 0).ofPage(0, 2 + c).alloc(CLASS_BYTES[c], CLASS_BYTES[c]).ofCache(c, 6, 2).ofCache(c, 5, 1)
                .size(0, CLASS_BYTES[c]).count(3, 1);
        }
        // a cache of one's own is none of them, though it would be the nearest
        started(0, 63).cache(24, 8, 6).alloc(24, 0).ofPage(0, 4).ofCache(6, 6, 0);
        // what take() and alloc() take stands in the same slabs
        started(0, 63).take(1, 0).alloc(10, 16).take(1, 32).free(16, 16).take(1, 16).give(1, 0, 2);
    }

    private static void allocBlocks() {
        check.says(10, "up to 4096: a block of the least order that is");
        started(0, 63).alloc(257, 0).ofPage(0, 1).order(0, 3).alloc(512, 512).order(8, 3).count(3, 2).count(5, 0);
        started(0, 63).alloc(513, 0).order(0, 4).alloc(1024, 1024).order(16, 4);
        started(0, 63).alloc(1025, 0).order(0, 5).alloc(2048, 2048).order(32, 5);
        started(0, 127).alloc(2049, 0).order(0, 6).alloc(4096, 4096).order(64, 6).alloc(257, NONE);
        started(192, 255).alloc(4096, 12288).size(12288, 4096).free(12288, 4096);
    }

    private static void freeBytes() {
        check.says(11, "is given back, by its address: how many bytes it had");
        for (int c = 0; c < 6; c++) {
            started(0, 63).alloc(CLASS_BYTES[c] - 1, 0).take(c, CLASS_BYTES[c]).free(0, CLASS_BYTES[c]).free(CLASS_BYTES[c], CLASS_BYTES[c])
                .ofCache(c, 7, 0).count(5, 0).count(4, 0);
        }
        for (int order = 0; order <= 6; order++) {
            started(192, 255).pages(order, 192).free(12288, 64 << order).count(4, 1).frees(0, 0, 0, 0, 0, 0, 1);
        }
        started(0, 63).alloc(257, 0).free(0, 512).alloc(2049, 0).free(0, 4096);
        // the second empty slab goes here, too
        started(0, 3).takes(1, 0, 16, 32, 48, 64).free(64, 16).free(0, 16).free(16, 16).free(32, 16).free(48, 16).ofPage(0, 0)
            .ofCache(1, 7, 1).count(4, 1);
    }

    /** Free: page 3, pages 6 and 7, 16 to 31. Taken: page 2, pages 8 to 15. Slabs: of cache 6 0 and 1, of cache 0 4, of cache 1 5. */
    private static Run mixed() {
        return started(0, 31).cache(24, 8, 6).takes(6, 0, 24).pages(0, 2).pages(0, 3).alloc(8, 256).take(1, 320).alloc(300, 512)
            .freePages(3, 1).alloc(1, 264).free(256, 8).frees(1, 1, 0, 0, 1);
    }

    private static void freeWild() {
        check.says(11, "WILD: it is not where something taken begins");
        made().usable(0, 255, true).free(0, WILD).free(64, WILD).free(16383, WILD).free(-1, WILD).free(16384, WILD);
        Run x = mixed();
        for (int address : NO_ADDRESSES) {
            x.free(address, WILD);
        }
        // objects of other caches than 0 to 5, live or free
        x.free(0, WILD).free(24, WILD).free(48, WILD).free(120, WILD).free(64, WILD);
        // within an object, a block, a free block, and where nothing is usable
        x.free(265, WILD).free(271, WILD).free(321, WILD).free(328, WILD).free(129, WILD).free(191, WILD).free(513, WILD).free(576, WILD)
            .free(960, WILD).free(193, WILD).free(200, WILD).free(448, WILD).free(1025, WILD).free(1088, WILD).free(2048, WILD).free(16320, WILD);
        x.count(4, 1).count(5, 4);
        // a slab's second page, where no object begins
        started(0, 1).alloc(20, 0).free(64, TWICE).free(80, WILD).free(32, TWICE).free(96, TWICE).free(0, 32);
    }

    private static void freeTwice() {
        check.says(11, "TWICE: it is that of a free object of such a slab, or of the first page of a free block (for a page, or by size).");
        Run x = mixed();
        x.free(256, TWICE).free(272, TWICE).free(312, TWICE).free(336, TWICE).free(368, TWICE);
        x.free(192, TWICE).free(384, TWICE).free(1024, TWICE);
        x.free(128, 64).free(128, TWICE).free(192, WILD).free(512, 512).free(512, TWICE).free(264, 8).free(264, TWICE).free(320, 16).free(320, TWICE);
        x.count(5, 2);
        // the slab went: where it began a free block may begin
        started(0, 0).alloc(8, 0).free(0, 8).free(0, TWICE).free(8, TWICE).shrink(0, 1).free(0, TWICE).free(8, WILD);
        started(0, 1).pages(0, 0).alloc(8, 64).free(64, 8).shrink(0, 1).free(64, TWICE).freePages(0, 1).free(64, WILD).free(0, TWICE);
    }

    private static void resizeLooksFirst() {
        check.says(12, "WILD, TWICE (looked at first)");
        made().usable(0, 63, true).resize(0, 8, WILD).resize(0, 0, WILD).resize(-1, 9999, WILD);
        Run x = mixed().arm(4, true);
        for (int address : NO_ADDRESSES) {
            x.resize(address, 8, WILD).resize(address, 0, WILD);
        }
        for (int bytes : NO_BYTES) {
            x.resize(256, bytes, TWICE).resize(192, bytes, TWICE).resize(1024, bytes, TWICE).resize(0, bytes, WILD).resize(265, bytes, WILD)
                .resize(576, bytes, WILD).resize(2048, bytes, WILD).resize(48, bytes, WILD).resize(1088, bytes, WILD);
        }
        // a class, or an order, that would be the same is no help
        x.resize(256, 8, TWICE).resize(265, 8, WILD).resize(192, 64, TWICE).resize(0, 24, WILD).resize(576, 512, WILD).resize(1024, 1024, TWICE);
        x.count(2, 0).count(8, 4).count(5, 4);
    }

    private static void resizeNone() {
        check.says(12, "NONE: bytes not 1 .. 4096, missed (it stays).");
        Run x = mixed().write(264, 77, 0).write(512, 78, 0).arm(9, true);
        for (int bytes : NO_BYTES) {
            x.resize(264, bytes, NONE).resize(512, bytes, NONE).resize(128, bytes, NONE);
        }
        x.count(2, 0).count(8, 9).size(264, 8).size(512, 512).size(128, 64);
        x.resize(264, 4096, NONE).resize(512, 4096, NONE).resize(128, 1025, NONE).count(2, 3).count(8, 6);
        x.size(264, 8).size(512, 512).size(128, 64).read(264, 77).read(512, 78).count(5, 4).count(4, 1).frees(1, 1, 0, 0, 1);
        x.arm(0, true).resize(264, 17, NONE).size(264, 8).count(8, NONE).arm(0, true).resize(128, 1000, NONE).size(128, 64);
        // 1 and 4096 are no boundary too far
        x.free(264, 8).alloc(256, 1024).resize(1024, 1, 264).size(264, 8);
        started(0, 127).alloc(1, 0).resize(0, 4096, 4096).size(4096, 4096);
        // it would have room if it were given back before, but it is not
        started(0, 15).alloc(1024, 0).resize(0, 512, NONE).size(0, 1024);
        started(0, 0).alloc(8, 0).resize(0, 16, NONE).size(0, 8).count(2, 1);
    }

    private static void resizeStays() {
        check.says(12, "but where its class, or order, would be the same, it stays");
        for (int c = 0; c < 6; c++) {
            int least = c == 0 ? 1 : CLASS_BYTES[c - 1] + 1;
            started(0, 63).alloc(least, 0).arm(0, true).resize(0, CLASS_BYTES[c], 0).resize(0, least, 0).size(0, CLASS_BYTES[c])
                .count(8, 0).count(5, 1).count(3, 1).count(2, 0);
        }
        for (int order = 3; order <= 6; order++) {
            started(0, 63).pages(order, 0).arm(0, true).resize(0, 64 << order, 0).resize(0, (32 << order) + 1, 0).size(0, 64 << order)
                .count(8, 0).count(3, 1).count(2, 0);
        }
        // it stays where it would be missed, too, and where a lesser page is free
        started(0, 1).take(1, 0).take(1, 16).pages(0, 1).resize(0, 9, 0).resize(16, 16, 16);
        started(0, 15).pages(3, 0).alloc(257, 512).freePages(0, 8).resize(512, 300, 512);
    }

    private static void resizeGoes() {
        check.says(12, "What was taken so gets another size: something is taken by size");
        for (int c = 0; c < 5; c++) {
            int above = c == 0 ? 64 : c == 1 ? 128 : c == 2 ? 256 : c == 3 ? 512 : 1024;
            started(0, 63).take(c, 0).resize(0, CLASS_BYTES[c] + 1, above).size(above, 2 * CLASS_BYTES[c]).ofCache(c, 6, 0).ofCache(c, 7, 0)
                .resize(above, CLASS_BYTES[c], 0).ofCache(c, 6, 1).ofCache(c + 1, 6, 0).ofCache(c + 1, 7, above / 64);
        }
        started(0, 63).alloc(256, 0).resize(0, 257, 1024).size(1024, 512).resize(1024, 256, 0);
        started(0, 63).alloc(512, 0).resize(0, 513, 1024).resize(1024, 512, 0).resize(0, 256, 1024).ofPage(16, 7);
        // a block of pages() that has no more bytes than an object is no class, and no order that is taken by size
        started(0, 63).pages(0, 0).resize(0, 64, 256).ofPage(4, 5).ofPage(0, 0).count(4, 1);
        started(0, 63).pages(1, 0).resize(0, 128, 512).ofPage(8, 6).ofPage(0, 0);
        started(0, 63).pages(2, 0).resize(0, 256, 1024).ofPage(16, 7).ofPage(0, 0);
        started(0, 63).pages(2, 0).resize(0, 257, 512).ofPage(8, 1).order(8, 3);
    }

    /** What was taken for so many bytes is marked at an offset, and so is the place it goes to. */
    private static void marked(int bytes, int offset, int wanted, int to, boolean goes) {
        started(0, 255).alloc(bytes, 0).write(offset, 171, 0).write(to + offset, 99, 0).resize(0, wanted, to)
            .read(to + offset, goes ? 171 : 99).read(offset, 171);
    }

    private static void resizeCopies() {
        check.says(12, "gets the first bytes of the old (as many as it had, and as are wanted)");
        marked(8, 0, 9, 64, true);
        marked(8, 7, 9, 64, true);
        marked(8, 8, 9, 64, false);
        // as many as it had, not as were asked for
        marked(1, 7, 16, 64, true);
        marked(300, 511, 1024, 1024, true);
        marked(300, 512, 1024, 1024, false);
        // as are wanted, not as the new one has
        marked(256, 0, 1, 1024, true);
        marked(256, 1, 1, 1024, false);
        marked(256, 8, 9, 1024, true);
        marked(256, 9, 9, 1024, false);
        marked(256, 15, 9, 1024, false);
        marked(4096, 256, 257, 4096, true);
        marked(4096, 257, 257, 4096, false);
        marked(4096, 511, 257, 4096, false);
        marked(4096, 2047, 2048, 4096, true);
        marked(4096, 2048, 2048, 4096, false);
        marked(2048, 2047, 2049, 4096, true);
        marked(2048, 2048, 2049, 4096, false);
        // bytes that are no more than 127 and such that are above it
        started(0, 63).alloc(8, 0).write(0, 255, 0).write(1, 128, 0).write(2, 127, 0).resize(0, 9, 64).read(64, 255).read(65, 128).read(66, 127);
    }

    private static void resizeGivesBack() {
        check.says(12, "and the old is given back");
        started(0, 63).alloc(8, 0).alloc(8, 8).resize(0, 64, 256).free(0, TWICE).alloc(8, 0).count(5, 3);
        started(0, 63).alloc(8, 0).resize(0, 64, 256).ofCache(0, 7, 0).count(5, 1).count(4, 0).size(0, TWICE);
        started(0, 63).alloc(512, 0).resize(0, 1024, 1024).ofPage(0, 0).order(0, 4).count(4, 1).size(0, TWICE);
        // the second empty slab goes
        started(0, 3).takes(1, 0, 16, 32, 48, 64).give(1, 16, 3).give(1, 32, 2).give(1, 48, 1).give(1, 64, 0).ofCache(1, 7, 1)
            .resize(0, 8, 128).ofPage(0, 0).ofCache(1, 7, 1).count(4, 1).count(7, 3);
    }

    private static void sizeOf() {
        check.says(13, "How many bytes what was taken so has: the cache's size, or the pages' bytes. WILD, TWICE.");
        made().usable(0, 63, true).size(0, WILD).size(-1, WILD).size(16384, WILD).size(16383, WILD);
        for (int c = 0; c < 6; c++) {
            started(0, 63).take(c, 0).size(0, CLASS_BYTES[c]).size(CLASS_BYTES[c], TWICE).size(1, WILD).size(CLASS_BYTES[c] - 1, WILD)
                .give(c, 0, 0).size(0, TWICE);
        }
        for (int order = 0; order <= 6; order++) {
            started(192, 255).size(12288, TWICE).pages(order, 192).size(12288, 64 << order).size(12289, WILD)
                .size(12288 + (64 << order), order == 6 ? WILD : TWICE).size(12288 + (32 << order), WILD);
        }
        Run x = mixed();
        for (int address : NO_ADDRESSES) {
            x.size(address, WILD);
        }
        x.size(0, WILD).size(48, WILD).size(120, WILD).size(192, TWICE).size(256, TWICE).size(264, 8).size(320, 16).size(512, 512).size(576, WILD)
            .size(128, 64).size(1024, TWICE).size(1088, WILD).size(2048, WILD);
    }

    private static void addresses() {
        check.says(14, "A byte of memory. NONE: no such address.");
        Run x = started(0, 3);
        for (int address : NO_ADDRESSES) {
            x.read(address, NONE);
        }
        // 0 at first; also where nothing is usable, and before the start
        x.read(0, 0).read(16383, 0).read(255, 0).read(256, 0);
        made().read(0, 0).read(16383, 0).read(-1, NONE).read(16384, NONE).write(9, 200, 0).usable(0, 0, true).start(1).read(9, 200);

        check.says(15, "Its lowest 8 bits are put there: what stood there. NONE: no such address.");
        for (int address : NO_ADDRESSES) {
            x.write(address, 5, NONE).read(address, NONE);
        }
        x.read(0, 0).read(16383, 0).write(0, 1, 0).write(16383, 2, 0).read(0, 1).read(16383, 2).read(1, 0).read(16382, 0);
        x.write(0, 3, 1).write(16383, 4, 2).read(0, 3).read(16383, 4);
        // what is taken and given back leaves the bytes alone
        x.write(5, 9, 0).take(0, 0).read(5, 9).give(0, 0, 0).shrink(0, 1).pages(2, 0).freePages(0, 4).read(5, 9).read(0, 3);
    }

    private static void lowestBits() {
        check.says(15, "Its lowest 8 bits are put there: what stood there.");
        int[][] bits = {{0, 0}, {1, 1}, {127, 127}, {128, 128}, {255, 255}, {256, 0}, {257, 1}, {511, 255}, {-1, 255}, {-128, 128},
            {-129, 127}, {-255, 1}, {-256, 0}, {LEAST, 0}, {LEAST + 1, 1}, {MOST, 255}, {MOST - 1, 254}, {65536 + 44, 44}};
        for (int near = 0; near < 8; near++) {
            int address = 800 + near;
            Run x = made().write(address - 1, 90, 0).write(address + 1, 91, 0);
            int stood = 0;
            for (int[] v : bits) {
                x.write(address, v[0], stood).read(address, v[1]);
                stood = v[1];
            }
            x.read(address - 1, 90).read(address + 1, 91);
        }
    }
}
