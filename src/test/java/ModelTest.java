import java.util.ArrayList;
import java.util.List;
import java.util.Random;

/** Runs of 512 calls from fixed seeds: the class answers as the model does, the last calls asking for its state. */
public final class ModelTest {
    private static final int RUNS = 6000;
    /** The most that one turn of a run makes. */
    private static final int CALLS_OF_A_TURN = 8;
    private static final int[] ODD = {Integer.MIN_VALUE, -1, 0, 7, 63, 64, 255, 256, 4096, 4097, 16383, 16384, Integer.MAX_VALUE};

    private static final Check check = new Check();

    private final Random random;
    private final Run x = new Run(check);
    private final Model m = new Model();
    /** Addresses that were answered, live or not, so that giving back meets both. */
    private final List<Integer> addresses = new ArrayList<>();
    /** How often a run takes rather than gives, so that some fill up and some stay nearly empty. */
    private final int greed;
    /** Some runs keep to a few sizes, so that slabs fill up and become empty again. */
    private final int widest;
    /** The calls that are left for asking at the end. */
    private final int reserve;

    private ModelTest(long seed) {
        random = new Random(seed);
        greed = 35 + random.nextInt(40);
        widest = random.nextBoolean() ? 40 : random.nextBoolean() ? 256 : 4096;
        reserve = random.nextBoolean() ? 40 : 250;
    }

    public static void main(String[] args) {
        for (int run = 0; run < RUNS; run++) {
            check.in("seed " + run);
            new ModelTest(run).run();
        }
        check.end();
    }

    private void run() {
        if (random.nextInt(8) != 0) {
            tellUsable();
        }
        while (x.callsLeft() >= reserve + CALLS_OF_A_TURN) {
            oneTurn();
        }
        compareCounts();
        while (x.callsLeft() >= CALLS_OF_A_TURN) {
            askSomething();
        }
    }

    private void tellUsable() {
        int ranges = 1 + random.nextInt(4);
        for (int i = 0; i < ranges; i++) {
            int from = random.nextInt(256);
            int to = random.nextBoolean() ? 255 : Math.min(255, from + random.nextInt(80));
            usable(from, to);
        }
        check.due("start()", x.next().start(), m.start());
    }

    private void usable(int from, int to) {
        check.due("usable(" + from + ", " + to + ")", x.next().usable(from, to) ? 1 : 0, m.usable(from, to) ? 1 : 0);
    }

    private void oneTurn() {
        int dice = random.nextInt(100);
        if (dice < 78) {
            if (random.nextInt(100) < greed) {
                takeSomething();
            } else {
                giveSomething();
            }
        } else if (dice < 90) {
            changeSomething();
        } else {
            askSomething();
        }
    }

    private int odd() {
        return random.nextBoolean() ? ODD[random.nextInt(ODD.length)] : random.nextInt();
    }

    private boolean rarely() {
        return random.nextInt(30) == 0;
    }

    private int anyBytes() {
        return rarely() ? odd() : 1 + random.nextInt(widest);
    }

    private int anyCache() {
        return rarely() ? odd() : random.nextInt(13);
    }

    private int anyPage() {
        return rarely() ? odd() : random.nextInt(256);
    }

    private int anyAddress() {
        if (rarely()) {
            return odd();
        }
        if (addresses.isEmpty() || random.nextInt(12) == 0) {
            return random.nextInt(16384) & (random.nextBoolean() ? -64 : -1);
        }
        int address = addresses.get(random.nextInt(addresses.size()));
        return random.nextInt(12) == 0 ? address + random.nextInt(130) - 65 : address;
    }

    /** Mostly one of something that was taken, near its beginning or its end. */
    private int anyByte() {
        return anyAddress() + (1 << random.nextInt(13)) - 1 - random.nextInt(2);
    }

    private void keep(int address) {
        if (address >= 0) {
            addresses.add(address);
        }
    }

    private void takeSomething() {
        switch (random.nextInt(3)) {
            case 0 -> {
                int order = rarely() ? odd() : random.nextInt(1 + random.nextInt(7));
                int page = x.next().pages(order);
                check.due("pages(" + order + ")", page, m.pages(order));
                keep(page * 64);
            }
            case 1 -> {
                int cache = anyCache();
                int address = x.next().take(cache);
                check.due("take(" + cache + ")", address, m.take(cache));
                keep(address);
            }
            default -> {
                int bytes = anyBytes();
                int address = x.next().alloc(bytes);
                check.due("alloc(" + bytes + ")", address, m.alloc(bytes));
                keep(address);
            }
        }
    }

    private void giveSomething() {
        int address = anyAddress();
        switch (random.nextInt(4)) {
            case 0 -> {
                int page = address < 0 ? address : address / 64;
                check.due("freePages(" + page + ")", x.next().freePages(page), m.freePages(page));
            }
            case 1 -> {
                int use = address < 0 ? -1 : x.next().ofPage(address / 64);
                int cache = use >= 2 && random.nextInt(10) != 0 ? use - 2 : anyCache();
                check.due("give(" + cache + ", " + address + ")", x.next().give(cache, address), m.give(cache, address));
            }
            case 2 -> check.due("free(" + address + ")", x.next().free(address), m.free(address));
            default -> {
                int bytes = anyBytes();
                int moved = x.next().resize(address, bytes);
                check.due("resize(" + address + ", " + bytes + ")", moved, m.resize(address, bytes));
                keep(moved);
            }
        }
    }

    private void changeSomething() {
        switch (random.nextInt(6)) {
            case 0 -> {
                int size = rarely() ? odd() : 1 + random.nextInt(random.nextBoolean() ? 64 : 1030);
                int align = rarely() ? odd() : rarely() ? random.nextInt(70) : 1 << random.nextInt(7);
                check.due("cache(" + size + ", " + align + ")", x.next().cache(size, align), m.cache(size, align));
            }
            case 1 -> {
                int cache = anyCache();
                check.due("shrink(" + cache + ")", x.next().shrink(cache), m.shrink(cache));
            }
            case 2 -> {
                int n = rarely() ? odd() : random.nextInt(12);
                check.due("arm(" + n + ")", x.next().arm(n) ? 1 : 0, m.arm(n) ? 1 : 0);
            }
            case 3 -> {
                if (random.nextInt(8) == 0) {
                    check.due("start()", x.next().start(), m.start());
                } else {
                    usable(anyPage(), anyPage());
                }
            }
            default -> {
                int address = anyByte();
                int v = random.nextInt();
                check.due("write(" + address + ", " + v + ")", x.next().write(address, v), m.write(address, v));
            }
        }
    }

    private void askSomething() {
        int page = anyPage();
        int address = anyAddress();
        int at = anyByte();
        int cache = anyCache();
        int what = rarely() ? odd() : random.nextInt(11) - 1;
        check.due("size(" + address + ")", x.next().size(address), m.size(address));
        check.due("read(" + at + ")", x.next().read(at), m.read(at));
        check.due("ofPage(" + page + ")", x.next().ofPage(page), m.ofPage(page));
        check.due("block(" + page + ")", x.next().block(page), m.block(page));
        check.due("order(" + page + ")", x.next().order(page), m.order(page));
        check.due("freeBlocks(" + what + ")", x.next().freeBlocks(what), m.freeBlocks(what));
        check.due("ofCache(" + cache + ", " + what + ")", x.next().ofCache(cache, what), m.ofCache(cache, what));
        check.due("count(" + what + ")", x.next().count(what), m.count(what));
    }

    private void compareCounts() {
        for (int order = 0; order < 7; order++) {
            check.due("freeBlocks(" + order + ")", x.next().freeBlocks(order), m.freeBlocks(order));
        }
        for (int what = 0; what < 9; what++) {
            check.due("count(" + what + ")", x.next().count(what), m.count(what));
        }
    }
}
