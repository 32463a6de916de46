/** Promise 15: translate; and that steps translate likewise. */
public final class TranslateTest {
    private static final long RAM = Code.RAM;
    private static final long ROOT = RAM + 0x4000;
    private static final long MIDDLE = RAM + 0x5000;
    private static final long LAST = RAM + 0x6000;
    /** V, R, W, X, A, D: all but U. */
    private static final int ALL = 0xcf;
    private static final int U = 16;

    private static long entry(long address, long flags) {
        return address / 4096 << 10 | flags;
    }

    /** Address 0x40201abc goes by entries 1, 1, 1 of the three tables. */
    private static final long V = 1L << 30 | 1L << 21 | 1L << 12 | 0xabc;

    private static HartBoard board(int privilege, long leaf) {
        HartBoard x = new HartBoard(16);
        x.order(0x305, RAM + 0x800);
        x.poke(ROOT + 8, 8, entry(MIDDLE, 1));
        x.poke(MIDDLE + 8, 8, entry(LAST, 1));
        x.poke(LAST + 8, 8, leaf);
        x.order(0x180, 8L << 60 | ROOT / 4096);
        x.lower(privilege);
        return x;
    }

    private static final int[] PAGE_FAULT = {-13, -14, -16};
    private static final int[] ACCESS_FAULT = {-2, -6, -8};

    /** good: bits for fetch (1), load (2), store (4). */
    private static void due(String what, HartBoard x, long v, int good, long want) {
        for (int kind = 0; kind < 3; kind++) {
            Check.due(what + ", kind " + kind, x.translate(v, kind), (good >> kind & 1) == 1 ? want : PAGE_FAULT[kind]);
        }
    }

    private static void withoutTranslation() {
        HartBoard x = board(3, 0);
        for (long v : new long[] {0, -1, -13, Long.MIN_VALUE, RAM, 5}) {
            due("privilege 3", x, v, 7, v);
        }
        x.lower(0);
        x.order(0x180, ROOT / 4096);
        due("mode 0", x, -2, 7, -2);
        for (int kind : new int[] {-1, 3, Integer.MIN_VALUE, Integer.MAX_VALUE}) {
            Check.dueIllegalArgument("kind " + kind, () -> x.translate(0, kind));
        }
    }

    private static void leaves() {
        long page = 0x12345678000L;
        long at = page | 0xabc;
        for (int flags = 0; flags < 256; flags++) {
            boolean r = (flags & 2) != 0;
            boolean w = (flags & 4) != 0;
            boolean xx = (flags & 8) != 0;
            boolean u = (flags & 16) != 0;
            boolean sound = (flags & 1) != 0 && !(w && !r) && (flags & 64) != 0 && (r || xx);
            for (int privilege = 0; privilege < 2; privilege++) {
                for (int status = 0; status < 4; status++) {
                    boolean sum = (status & 1) != 0;
                    boolean mxr = (status & 2) != 0;
                    HartBoard x = board(privilege, entry(page, flags));
                    x.order(0x300, (sum ? 1 << 18 : 0) | (mxr ? 1 << 19 : 0));
                    boolean reach = privilege == 0 ? u : !u || sum;
                    boolean fetch = sound && xx && (privilege == 0 ? u : !u);
                    boolean load = sound && reach && (r || mxr && xx);
                    boolean store = sound && reach && w && (flags & 128) != 0;
                    due("flags " + flags + " privilege " + privilege + " status " + status, x, V,
                        (fetch ? 1 : 0) | (load ? 2 : 0) | (store ? 4 : 0), at);
                }
            }
        }
        due("bits 9..8 are free", board(1, entry(page, ALL | 0x320)), V, 7, at);
        for (int bit = 54; bit < 64; bit++) {
            due("bit " + bit, board(1, entry(page, ALL) | 1L << bit), V, 0, 0);
        }
        due("the highest page", board(1, (1L << 54) - 1024 | ALL), V, 7, (1L << 56) - 4096 | 0xabc);
    }

    private static void addresses() {
        HartBoard x = board(1, entry(RAM, ALL));
        due("the page", x, V, 7, RAM + 0xabc);
        due("its end", x, V | 0xfff, 7, RAM + 0xfff);
        due("the next page", x, V + 4096, 0, 0);
        for (int bit = 39; bit < 64; bit++) {
            due("bit " + bit, x, V | 1L << bit, 0, 0);
        }
        due("bit 38 alone", x, V | 1L << 38, 0, 0);
        x.poke(ROOT + 8 * 257, 8, entry(0, ALL));
        due("bit 38 with all above", x, V | -1L << 38, 7, 1L << 21 | 0x1abc);
        due("without those above", x, V | 1L << 38, 0, 0);
        x.poke(ROOT + 8 * 511, 8, entry(MIDDLE, 1));
        x.poke(MIDDLE + 8 * 511, 8, entry(LAST, 1));
        x.poke(LAST + 8 * 511, 8, entry(RAM + 0x3000, ALL));
        due("the last address", x, -1, 7, RAM + 0x3fff);
    }

    private static void largePages() {
        HartBoard x = board(1, 0);
        x.poke(ROOT + 8, 8, entry(5L << 30, ALL));
        due("a page of 2^30", x, V, 7, 5L << 30 | V & 0x3fffffff);
        for (int bit = 10; bit < 28; bit++) {
            x.poke(ROOT + 8, 8, entry(5L << 30, ALL) | 1L << bit);
            due("one that is not aligned", x, V, 0, 0);
        }
        x.poke(ROOT + 8, 8, entry(5L << 30, ALL) | 1L << 28 | 1L << 53);
        due("one that is", x, V, 7, (5L << 30 | 1L << 30 | 1L << 55) | V & 0x3fffffff);
        x.poke(ROOT + 8, 8, entry(MIDDLE, 1));
        x.poke(MIDDLE + 8, 8, entry(7L << 21, ALL));
        due("a page of 2^21", x, V, 7, 7L << 21 | V & 0x1fffff);
        for (int bit = 10; bit < 19; bit++) {
            x.poke(MIDDLE + 8, 8, entry(6L << 21, ALL) | 1L << bit);
            due("one that is not aligned", x, V, 0, 0);
        }
        x.poke(MIDDLE + 8, 8, entry(6L << 21, ALL) | 1L << 19);
        due("one that is", x, V, 7, 7L << 21 | V & 0x1fffff);
    }

    private static void tables() {
        for (long table : new long[] {ROOT, MIDDLE, LAST}) {
            for (int bit : new int[] {4, 6, 7}) {
                HartBoard x = board(1, entry(RAM, ALL));
                x.poke(table + 8, 8, entry(table + 4096, 1 | 1 << bit));
                due("a table with bit " + bit, x, V, 0, 0);
            }
            HartBoard x = board(1, entry(RAM, ALL));
            x.poke(table + 8, 8, entry(table + 4096, 0));
            due("a table that is not valid", x, V, 0, 0);
            x.poke(table + 8, 8, entry(table + 4096, 5));
            due("W without R", x, V, 0, 0);
            x.poke(table + 8, 8, entry(table + 4096, 1));
            due("a table, last level or not", x, V, table == LAST ? 0 : 7, RAM + 0xabc);
            x.poke(table + 8, 8, entry(table + 4096, 0x321));
            due("with bits 5, 8, 9", x, V, table == LAST ? 0 : 7, RAM + 0xabc);
            x.poke(table + 8, 8, entry(RAM - 4096, 1));
            for (int kind = 0; kind < 3; kind++) {
                Check.due("a table outside of RAM", x.translate(V, kind), table == LAST ? PAGE_FAULT[kind] : ACCESS_FAULT[kind]);
            }
        }
        HartBoard x = board(0, entry(RAM, ALL | U));
        for (long root : new long[] {0, RAM / 4096 - 1, RAM / 4096 + 16, (1L << 44) - 1}) {
            x.order(0x180, 8L << 60 | root);
            for (int kind = 0; kind < 3; kind++) {
                Check.due("ROOT outside of RAM", x.translate(V, kind), ACCESS_FAULT[kind]);
            }
        }
        x.order(0x180, 8L << 60 | 0xffffL << 44 | ROOT / 4096);
        due("bits 59..44 of SATP are not asked", x, V, 7, RAM + 0xabc);
    }

    private static void byMachine() {
        HartBoard x = board(3, entry(RAM, ALL));
        x.order(0x300, 1 << 17 | 1 << 11);
        Check.due("fetch with MPRV", x.translate(V, 0), V);
        Check.due("load with MPRV", x.translate(V, 1), RAM + 0xabc);
        Check.due("store with MPRV", x.translate(V, 2), RAM + 0xabc);
        x.order(0x300, 1 << 17);
        Check.due("MPP 0: load", x.translate(V, 1), -14);
        Check.due("MPP 0: store", x.translate(V, 2), -16);
        x.order(0x300, 1 << 17 | 3 << 11);
        due("MPP 3", x, V, 7, V);
        x.lower(1);
        Check.due("MPP 3 from privilege 1: load", x.translate(V + 4096, 1), V + 4096);
        Check.due("MPP 3 from privilege 1: fetch", x.translate(V + 4096, 0), -13);
    }

    private static void steps() {
        HartBoard x = board(1, entry(RAM, ALL));
        long code = V & ~0xfffL;
        x.poke(RAM, 4, Code.load(3, 5, 6, 0));
        x.poke(RAM + 4, 4, Code.store(3, 7, 6, 8));
        x.poke(RAM + 0x100, 8, 0x1234);
        x.set(6, code + 0x100);
        x.set(7, 0x5678);
        x.set(32, code);
        Check.due("two steps", x.step(2), 2);
        Check.due("loaded", x.get(5), 0x1234);
        Check.due("stored", x.peek(RAM + 0x108), 0x5678);
        Check.due("the entry is as it was", x.peek(LAST + 8), entry(RAM, ALL));
        Check.due("PC", x.get(32), code + 8);
        dueFault(x, code, code + 4096, 13, 15);
        dueFault(x, code, 1L << 50, 13, 15);
        x.poke(MIDDLE + 16, 8, entry(0, 1));
        dueFault(x, code, code + (1 << 21), 5, 7);
        // The page leads to where no RAM is: the access itself faults, with the virtual address.
        x.poke(LAST + 16, 8, entry(0x30000000L, ALL));
        dueFault(x, code, code + 4096, 5, 7);
        x.lower(1);
        x.set(32, code + 4096);
        x.step(1);
        Check.due("fetch where no RAM is", x.control(0x342), 1);
        Check.due("its VALUE", x.control(0x343), code + 4096);
        halvesOnTwoPages(x, code);
    }

    private static void dueFault(HartBoard x, long code, long v, int load, int store) {
        x.set(6, v);
        x.lower(1);
        x.set(32, code);
        Check.due("load traps", x.step(1), 0);
        Check.due("its CAUSE", x.control(0x342), load);
        Check.due("its VALUE", x.control(0x343), v);
        x.lower(1);
        x.set(6, v - 8);
        x.set(32, code + 4);
        Check.due("store traps", x.step(1), 0);
        Check.due("its CAUSE", x.control(0x342), store);
        Check.due("its VALUE", x.control(0x343), v);
        x.lower(1);
        x.set(6, v + 1);
        x.set(32, code);
        x.step(1);
        Check.due("misaligned goes first", x.control(0x342), 4);
    }

    private static void halvesOnTwoPages(HartBoard x, long code) {
        int w = Code.addi(5, 0, 77);
        x.poke(RAM + 4094, 2, w);
        x.poke(LAST + 16, 8, entry(RAM + 0x2000, ALL));
        x.poke(RAM + 0x2000, 2, w >>> 16);
        x.lower(1);
        x.set(32, code + 4094);
        Check.due("halves on two pages", x.step(1), 1);
        Check.due("x5", x.get(5), 77);
        Check.due("PC", x.get(32), code + 4098);
        x.poke(LAST + 16, 8, 0);
        x.set(32, code + 4094);
        Check.due("the second one faults", x.step(1), 0);
        Check.due("CAUSE", x.control(0x342), 12);
        Check.due("VALUE", x.control(0x343), code + 4096);
        Check.due("EPC", x.control(0x341), code + 4094);
        x.lower(1);
        x.set(32, code + 4096);
        x.step(1);
        Check.due("the first one faults", x.control(0x343), code + 4096);
        // A reservation is by the physical address.
        x.poke(LAST + 16, 8, entry(RAM, ALL));
        x.poke(RAM + 0x200, 4, Code.atomic(2, 3, 5, 6, 0));
        x.poke(RAM + 0x204, 4, Code.atomic(3, 3, 5, 7, 0));
        x.set(6, code + 0x100);
        x.set(7, code + 4096 + 0x100);
        x.lower(1);
        x.set(32, code + 0x200);
        Check.due("reserved by one address, stored by another", x.step(2), 2);
        Check.due("x5", x.get(5), 0);
    }

    public static void main(String[] args) {
        withoutTranslation();
        leaves();
        addresses();
        largePages();
        tables();
        byMachine();
        steps();
        Check.end();
    }
}
