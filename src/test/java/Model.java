import java.util.ArrayDeque;
import java.util.ArrayList;
import java.util.List;
import java.util.Map;
import java.util.TreeMap;
import java.util.TreeSet;

/** The document once more, as slow and as literal as it goes, to compare the class with. */
final class Model {
    private static final int NONE = -1, WILD = -2, TWICE = -3;

    private static final class Block {
        int page;
        int order;
        Slab slab;
        boolean free;

        Block(int page, int order) {
            this.page = page;
            this.order = order;
        }

        int end() {
            return page + (1 << order);
        }
    }

    private static final class Slab {
        Kind kind;
        final ArrayDeque<Integer> row = new ArrayDeque<>();
        final TreeSet<Integer> live = new TreeSet<>();
    }

    private static final class Kind {
        int size;
        int align;
        int stride;
        int order;
        int objects;
        Block empty;
    }

    private final int[] memory = new int[16384];
    private final TreeSet<Integer> usable = new TreeSet<>();
    private final TreeMap<Integer, Block> blocks = new TreeMap<>();
    private final List<Kind> kinds = new ArrayList<>();
    private boolean started;
    private int misses;
    private int taken;
    private int given;
    private int most;
    private int armed = NONE;

    Model() {
        for (int size = 8; size <= 256; size *= 2) {
            kinds.add(kind(size, Math.min(size, 64)));
        }
    }

    private static Kind kind(int size, int align) {
        Kind k = new Kind();
        k.size = size;
        k.align = align;
        k.stride = size;
        while (k.stride % align != 0) {
            k.stride++;
        }
        for (k.order = 0; k.order < 4; k.order++) {
            if (4 * k.stride <= bytes(k.order)) {
                break;
            }
        }
        k.objects = bytes(k.order) / k.stride;
        return k;
    }

    private static int bytes(int order) {
        return 64 * (1 << order);
    }

    boolean usable(int from, int to) {
        if (started || from < 0 || from > 255 || to < 0 || to > 255 || from > to) {
            return false;
        }
        for (int p = from; p <= to; p++) {
            usable.add(p);
        }
        return true;
    }

    int start() {
        if (started) {
            return NONE;
        }
        started = true;
        for (int order = 6; order >= 0; order--) {
            for (int p = 0; p < 256; p += 1 << order) {
                if (of(p) == null && usable.subSet(p, p + (1 << order)).size() == 1 << order) {
                    setFree(new Block(p, order));
                }
            }
        }
        return usable.size();
    }

    private Block of(int page) {
        Map.Entry<Integer, Block> e = blocks.floorEntry(page);
        return e != null && page < e.getValue().end() ? e.getValue() : null;
    }

    private void setFree(Block b) {
        b.free = true;
        b.slab = null;
        blocks.put(b.page, b);
    }

    private Block takeBlock(int order) {
        boolean miss = armed == 0;
        if (armed >= 0) {
            armed--;
        }
        Block best = null;
        for (Block b : blocks.values()) {
            if (b.free && b.order >= order && (best == null || b.order < best.order)) {
                best = b;
            }
        }
        if (miss || best == null) {
            misses++;
            return null;
        }
        while (best.order > order) {
            best.order--;
            setFree(new Block(best.end(), best.order));
        }
        best.free = false;
        taken++;
        most = Math.max(most, usable.size() - freePages());
        return best;
    }

    private void giveBlock(Block b) {
        given++;
        while (b.order < 6) {
            int width = 1 << b.order;
            Block buddy = blocks.get(b.page / width % 2 == 0 ? b.page + width : b.page - width);
            if (buddy == null || !buddy.free || buddy.order != b.order) {
                break;
            }
            blocks.remove(b.page);
            blocks.remove(buddy.page);
            b = new Block(Math.min(b.page, buddy.page), b.order + 1);
        }
        setFree(b);
    }

    private int freePages() {
        int n = 0;
        for (Block b : blocks.values()) {
            n += b.free ? 1 << b.order : 0;
        }
        return n;
    }

    int pages(int order) {
        if (!started || order < 0 || order > 6) {
            return NONE;
        }
        Block b = takeBlock(order);
        return b == null ? NONE : b.page;
    }

    int freePages(int page) {
        Block b = blocks.get(page);
        if (b == null || b.slab != null) {
            return WILD;
        }
        if (b.free) {
            return TWICE;
        }
        int n = 1 << b.order;
        giveBlock(b);
        return n;
    }

    int cache(int size, int align) {
        if (!started || size < 1 || size > 1024 || kinds.size() == 12 || !List.of(1, 2, 4, 8, 16, 32, 64).contains(align)) {
            return NONE;
        }
        kinds.add(kind(size, align));
        return kinds.size() - 1;
    }

    private Kind kindAt(int cache) {
        return cache < 0 || cache >= kinds.size() ? null : kinds.get(cache);
    }

    private List<Block> slabsOf(Kind k) {
        List<Block> found = new ArrayList<>();
        for (Block b : blocks.values()) {
            if (b.slab != null && b.slab.kind == k) {
                found.add(b);
            }
        }
        return found;
    }

    private int takeObject(Kind k) {
        Block from = null;
        for (Block b : slabsOf(k)) {
            if (from == null && !b.slab.row.isEmpty() && !b.slab.live.isEmpty()) {
                from = b;
            }
        }
        if (from == null) {
            from = k.empty;
        }
        if (from == null) {
            from = takeBlock(k.order);
            if (from == null) {
                return NONE;
            }
            from.slab = new Slab();
            from.slab.kind = k;
            for (int i = 0; i < k.objects; i++) {
                from.slab.row.addLast(from.page * 64 + i * k.stride);
            }
        }
        if (from == k.empty) {
            k.empty = null;
        }
        int address = from.slab.row.removeFirst();
        from.slab.live.add(address);
        return address;
    }

    private int giveObject(Block b, int address) {
        Kind k = b.slab.kind;
        b.slab.live.remove(address);
        b.slab.row.addFirst(address);
        int left = b.slab.live.size();
        if (left == 0 && k.empty == null) {
            k.empty = b;
        } else if (left == 0) {
            giveBlock(b);
        }
        return left;
    }

    int take(int cache) {
        Kind k = kindAt(cache);
        return k == null || !started ? NONE : takeObject(k);
    }

    /** 0 where nothing is wrong. */
    private int wrong(Kind k, int address) {
        for (Block b : slabsOf(k)) {
            if (b.slab.live.contains(address)) {
                return 0;
            }
            if (b.slab.row.contains(address)) {
                return TWICE;
            }
        }
        return WILD;
    }

    int give(int cache, int address) {
        Kind k = kindAt(cache);
        if (k == null) {
            return WILD;
        }
        int wrong = wrong(k, address);
        return wrong != 0 ? wrong : giveObject(of(address / 64), address);
    }

    int shrink(int cache) {
        Kind k = kindAt(cache);
        if (k == null) {
            return NONE;
        }
        if (k.empty == null) {
            return 0;
        }
        giveBlock(k.empty);
        k.empty = null;
        return 1 << k.order;
    }

    /** The cache by size, or null. */
    private Kind kindFor(int bytes) {
        for (int c = 0; c < 6; c++) {
            if (kinds.get(c).size >= bytes) {
                return kinds.get(c);
            }
        }
        return null;
    }

    private static int orderFor(int bytes) {
        int order = 0;
        while (bytes(order) < bytes) {
            order++;
        }
        return order;
    }

    int alloc(int bytes) {
        if (!started || bytes < 1 || bytes > 4096) {
            return NONE;
        }
        Kind k = kindFor(bytes);
        if (k != null) {
            return takeObject(k);
        }
        Block b = takeBlock(orderFor(bytes));
        return b == null ? NONE : b.page * 64;
    }

    private int wrongBySize(int address) {
        for (int c = 0; c < 6; c++) {
            int wrong = wrong(kinds.get(c), address);
            if (wrong != WILD) {
                return wrong;
            }
        }
        Block b = address < 0 || address % 64 != 0 ? null : blocks.get(address / 64);
        return b == null || b.slab != null ? WILD : b.free ? TWICE : 0;
    }

    private void giveBySize(int address) {
        Block b = of(address / 64);
        if (b.slab != null) {
            giveObject(b, address);
        } else {
            giveBlock(b);
        }
    }

    int free(int address) {
        int had = size(address);
        if (had > 0) {
            giveBySize(address);
        }
        return had;
    }

    int size(int address) {
        int wrong = wrongBySize(address);
        if (wrong != 0) {
            return wrong;
        }
        Block b = of(address / 64);
        return b.slab != null ? b.slab.kind.size : bytes(b.order);
    }

    int resize(int address, int bytes) {
        int had = size(address);
        if (had < 0) {
            return had;
        }
        if (bytes < 1 || bytes > 4096) {
            return NONE;
        }
        Block b = of(address / 64);
        Kind k = kindFor(bytes);
        boolean stays = k == null ? b.slab == null && b.order == orderFor(bytes) : b.slab != null && b.slab.kind == k;
        if (stays) {
            return address;
        }
        int moved = alloc(bytes);
        if (moved == NONE) {
            return NONE;
        }
        for (int i = 0; i < had && i < bytes; i++) {
            memory[moved + i] = memory[address + i];
        }
        giveBySize(address);
        return moved;
    }

    int read(int address) {
        return address < 0 || address > 16383 ? NONE : memory[address];
    }

    int write(int address, int v) {
        int before = read(address);
        if (before != NONE) {
            memory[address] = v & 255;
        }
        return before;
    }

    boolean arm(int n) {
        if (n < 0 || n > 100) {
            return false;
        }
        armed = n;
        return true;
    }

    int ofPage(int page) {
        if (page < 0 || page > 255) {
            return -2;
        }
        Block b = of(page);
        return b == null ? -1 : b.free ? 0 : b.slab == null ? 1 : 2 + kinds.indexOf(b.slab.kind);
    }

    int block(int page) {
        Block b = of(page);
        return b == null ? NONE : b.page;
    }

    int order(int page) {
        Block b = of(page);
        return b == null ? NONE : b.order;
    }

    int freeBlocks(int order) {
        if (order < 0 || order > 6) {
            return NONE;
        }
        int n = 0;
        for (Block b : blocks.values()) {
            n += b.free && b.order == order ? 1 : 0;
        }
        return n;
    }

    private int live(Kind k) {
        int n = 0;
        for (Block b : slabsOf(k)) {
            n += b.slab.live.size();
        }
        return n;
    }

    int ofCache(int cache, int what) {
        Kind k = kindAt(cache);
        if (k == null || what < 0 || what > 7) {
            return NONE;
        }
        int[] all = {k.size, k.align, k.stride, k.order, k.objects, slabsOf(k).size(), live(k), k.empty == null ? NONE : k.empty.page};
        return all[what];
    }

    int count(int what) {
        if (what < 0 || what > 8) {
            return NONE;
        }
        int live = 0;
        for (Kind k : kinds) {
            live += live(k);
        }
        int[] all = {usable.size(), freePages(), misses, taken, given, live, kinds.size(), most, armed};
        return all[what];
    }
}
