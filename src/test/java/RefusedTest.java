import java.util.function.Consumer;

/**
 * "Nothing happens then." Of two objects with the same calls one gets calls more that are refused;
 * all that can be asked of them afterwards, and what they give out then, is the same.
 */
public final class RefusedTest {
    private static final int NONE = PageSlabs.NONE, WILD = PageSlabs.WILD, TWICE = PageSlabs.TWICE;
    private static final int LEAST = Integer.MIN_VALUE, MOST = Integer.MAX_VALUE;
    private static final String NOTHING = "Nothing happens then.";

    private static final Check check = new Check();

    public static void main(String[] args) {
        blocks();
        objects();
        bySize();
        bytesAndMisses();
        beforeTheStart();
        check.end();
    }

    /**
     * Free: page 5, pages 6 and 7, 16 to 31. Taken: page 3, pages 8 to 15. Slabs: of cache 6 pages 0
     * and 1 (live 0 and 36), of cache 0 page 2 (live 136), of cache 1 page 4 (the empty one).
     */
    private static void build(Run x) {
        x.usable(0, 31, true).start(32).cache(17, 2, 6).takes(6, 0, 18, 36).give(6, 18, 2).alloc(8, 128).alloc(8, 136).free(128, 8);
        x.alloc(300, 512).pages(0, 3).take(1, 256).give(1, 256, 0).pages(1, 6).freePages(6, 2).write(136, 7, 0).write(512, 9, 0);
        x.arm(50, true).frees(1, 1, 0, 0, 1);
    }

    private static void nothingHappens(Consumer<Run> build, Consumer<Run> refused) {
        Run plain = new Run(check);
        Run other = new Run(check);
        build.accept(plain);
        build.accept(other);
        refused.accept(other);
        sameAnswers(plain, other);
        sameGivenOut(plain, other);
    }

    private static void sameAnswers(Run plain, Run other) {
        for (int what = 0; what < 9; what++) {
            other.count(what, plain.next().count(what));
        }
        for (int order = 0; order < 7; order++) {
            other.freeBlocks(order, plain.next().freeBlocks(order));
        }
        for (int cache = 0; cache < 8; cache++) {
            for (int what = 5; what < 8; what++) {
                other.ofCache(cache, what, plain.next().ofCache(cache, what));
            }
        }
        for (int page = 0; page < 33; page++) {
            other.ofPage(page, plain.next().ofPage(page));
            other.block(page, plain.next().block(page));
            other.order(page, plain.next().order(page));
        }
        int[] bytes = {0, 1, 127, 128, 135, 136, 137, 511, 512, 513, 16383};
        for (int address : bytes) {
            other.read(address, plain.next().read(address));
        }
    }

    /** The rows, too, are as they were. */
    private static void sameGivenOut(Run plain, Run other) {
        other.start(plain.next().start());
        for (int i = 0; i < 8; i++) {
            other.take(6, plain.next().take(6));
            other.take(0, plain.next().take(0));
            other.take(1, plain.next().take(1));
            other.pages(i % 4, plain.next().pages(i % 4));
        }
        other.cache(5, 1, plain.next().cache(5, 1));
    }

    private static void refused(int promise, Consumer<Run> calls) {
        check.says(promise, NOTHING);
        nothingHappens(RefusedTest::build, calls);
    }

    private static void blocks() {
        refused(2, x -> x.usable(40, 50, false).usable(32, 32, false).usable(0, 0, false).usable(-1, 5, false).usable(9, 8, false));
        refused(3, x -> x.start(NONE).start(NONE));
        refused(4, x -> x.pages(-1, NONE).pages(7, NONE).pages(LEAST, NONE).pages(MOST, NONE));
        refused(5, x -> x.freePages(-1, WILD).freePages(256, WILD).freePages(LEAST, WILD).freePages(MOST, WILD).freePages(32, WILD)
            .freePages(0, WILD).freePages(1, WILD).freePages(2, WILD).freePages(4, WILD).freePages(9, WILD).freePages(7, WILD).freePages(17, WILD)
            .freePages(5, TWICE).freePages(6, TWICE).freePages(16, TWICE));
    }

    private static void objects() {
        refused(6, x -> x.cache(0, 1, NONE).cache(1025, 1, NONE).cache(8, 0, NONE).cache(8, 3, NONE).cache(8, 128, NONE).cache(8, LEAST, NONE));
        refused(7, x -> x.take(-1, NONE).take(7, NONE).take(12, NONE).take(LEAST, NONE).take(MOST, NONE));
        refused(8, x -> x.give(-1, 0, WILD).give(7, 0, WILD).give(12, 0, WILD).give(6, -1, WILD).give(6, 16384, WILD).give(6, 19, WILD)
            .give(6, 126, WILD).give(0, 0, WILD).give(6, 136, WILD).give(0, 192, WILD).give(0, 320, WILD).give(0, 512, WILD).give(0, 2048, WILD)
            .give(6, 18, TWICE).give(6, 54, TWICE).give(6, 108, TWICE).give(0, 128, TWICE).give(0, 184, TWICE).give(1, 256, TWICE).give(1, 304, TWICE));
        refused(9, x -> x.shrink(0, 0).shrink(6, 0).shrink(5, 0).shrink(7, NONE).shrink(-1, NONE).shrink(12, NONE).shrink(MOST, NONE));
    }

    private static void bySize() {
        refused(10, x -> x.alloc(0, NONE).alloc(-1, NONE).alloc(4097, NONE).alloc(LEAST, NONE).alloc(MOST, NONE));
        refused(11, x -> x.free(-64, WILD).free(16384, WILD).free(LEAST, WILD).free(0, WILD).free(18, WILD).free(36, WILD).free(132, WILD).free(137, WILD)
            .free(448, WILD).free(513, WILD).free(576, WILD).free(1088, WILD).free(2048, WILD).free(193, WILD)
            .free(128, TWICE).free(144, TWICE).free(256, TWICE).free(272, TWICE).free(320, TWICE).free(384, TWICE).free(1024, TWICE));
        refused(12, x -> x.resize(-64, 8, WILD).resize(16384, 8, WILD).resize(0, 8, WILD).resize(132, 8, WILD).resize(576, 8, WILD).resize(2048, 8, WILD)
            .resize(128, 64, TWICE).resize(256, 64, TWICE).resize(320, 64, TWICE).resize(1024, 64, TWICE)
            .resize(136, 0, NONE).resize(136, 4097, NONE).resize(512, LEAST, NONE).resize(192, MOST, NONE).resize(136, 5, 136).resize(512, 400, 512));
        refused(13, x -> x.size(136, 8).size(192, 64).size(512, 512).size(128, TWICE).size(320, TWICE).size(0, WILD).size(-1, WILD).size(16384, WILD));
    }

    private static void bytesAndMisses() {
        refused(14, x -> x.read(-1, NONE).read(16384, NONE).read(136, 7).read(512, 9));
        refused(15, x -> x.write(-1, 1, NONE).write(16384, 1, NONE).write(LEAST, 1, NONE).write(MOST, 1, NONE));
        refused(16, x -> x.arm(-1, false).arm(101, false).arm(LEAST, false).arm(MOST, false));
        refused(22, x -> x.count(-1, NONE).count(9, NONE).ofPage(-1, -2).ofPage(256, -2).block(-1, NONE).block(256, NONE).order(-1, NONE)
            .order(256, NONE).freeBlocks(-1, NONE).freeBlocks(7, NONE).ofCache(7, 0, NONE).ofCache(0, 8, NONE).ofCache(-1, -1, NONE));
    }

    private static void beforeTheStart() {
        check.says(2, NOTHING);
        nothingHappens(x -> x.usable(3, 9, true), x -> x.usable(-1, 2, false).usable(10, 256, false).usable(12, 11, false).usable(LEAST, MOST, false));
        check.says(3, "Before the start nothing is taken or given");
        nothingHappens(x -> x.usable(0, 20, true).arm(4, true), x -> x.pages(0, NONE).take(0, NONE).alloc(1, NONE).alloc(300, NONE)
            .freePages(0, WILD).give(0, 0, WILD).free(0, WILD).resize(0, 9, WILD).size(0, WILD).shrink(0, 0).cache(8, 8, NONE));
    }
}
