/**
 * A new object and the calls on it, each with the answer that is due. Nothing is promised about an
 * object after its 512th call, so a test that would make more of them is itself wrong.
 */
final class Run {
    static final int MOST_CALLS = 512;

    private final Check check;
    private final PageSlabs object = new PageSlabs();
    private int calls;

    Run(Check check) {
        this.check = check;
    }

    /** The object, for one call more. */
    PageSlabs next() {
        calls++;
        if (calls > MOST_CALLS) {
            throw new AssertionError("a test makes more than " + MOST_CALLS + " calls on one object");
        }
        return object;
    }

    int callsLeft() {
        return MOST_CALLS - calls;
    }

    private Run due(String call, int got, int want) {
        check.due(call, got, want);
        return this;
    }

    private Run due(String call, boolean got, boolean want) {
        check.due(call, got ? 1 : 0, want ? 1 : 0);
        return this;
    }

    Run usable(int from, int to, boolean want) {
        return due("usable(" + from + ", " + to + ")", next().usable(from, to), want);
    }

    Run start(int want) {
        return due("start()", next().start(), want);
    }

    Run pages(int order, int want) {
        return due("pages(" + order + ")", next().pages(order), want);
    }

    Run freePages(int page, int want) {
        return due("freePages(" + page + ")", next().freePages(page), want);
    }

    Run cache(int size, int align, int want) {
        return due("cache(" + size + ", " + align + ")", next().cache(size, align), want);
    }

    Run take(int cache, int want) {
        return due("take(" + cache + ")", next().take(cache), want);
    }

    /** One taking after the other. */
    Run takes(int cache, int... wants) {
        for (int want : wants) {
            take(cache, want);
        }
        return this;
    }

    Run give(int cache, int address, int want) {
        return due("give(" + cache + ", " + address + ")", next().give(cache, address), want);
    }

    Run shrink(int cache, int want) {
        return due("shrink(" + cache + ")", next().shrink(cache), want);
    }

    Run alloc(int bytes, int want) {
        return due("alloc(" + bytes + ")", next().alloc(bytes), want);
    }

    Run free(int address, int want) {
        return due("free(" + address + ")", next().free(address), want);
    }

    Run resize(int address, int bytes, int want) {
        return due("resize(" + address + ", " + bytes + ")", next().resize(address, bytes), want);
    }

    Run size(int address, int want) {
        return due("size(" + address + ")", next().size(address), want);
    }

    Run read(int address, int want) {
        return due("read(" + address + ")", next().read(address), want);
    }

    Run write(int address, int v, int want) {
        return due("write(" + address + ", " + v + ")", next().write(address, v), want);
    }

    Run arm(int n, boolean want) {
        return due("arm(" + n + ")", next().arm(n), want);
    }

    Run ofPage(int page, int want) {
        return due("ofPage(" + page + ")", next().ofPage(page), want);
    }

    Run block(int page, int want) {
        return due("block(" + page + ")", next().block(page), want);
    }

    Run order(int page, int want) {
        return due("order(" + page + ")", next().order(page), want);
    }

    Run freeBlocks(int order, int want) {
        return due("freeBlocks(" + order + ")", next().freeBlocks(order), want);
    }

    /** freeBlocks(0) and on. */
    Run frees(int... wants) {
        for (int order = 0; order < wants.length; order++) {
            freeBlocks(order, wants[order]);
        }
        return this;
    }

    Run ofCache(int cache, int what, int want) {
        return due("ofCache(" + cache + ", " + what + ")", next().ofCache(cache, what), want);
    }

    /** ofCache(cache, 0) and on. */
    Run figures(int cache, int... wants) {
        for (int what = 0; what < wants.length; what++) {
            ofCache(cache, what, wants[what]);
        }
        return this;
    }

    Run count(int what, int want) {
        return due("count(" + what + ")", next().count(what), want);
    }

    /** count(0) and on. */
    Run counts(int... wants) {
        for (int what = 0; what < wants.length; what++) {
            count(what, wants[what]);
        }
        return this;
    }
}
