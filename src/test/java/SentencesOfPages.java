/** What stands under 'Terms', 'A STEP', of addresses, their translation, and of loads and stores. */
final class SentencesOfPages {
    private static final long RAM = Steps.RAM;
    private static final long END = Steps.END;
    private static final long AT = Pages.AT;
    private static final int ALL = Pages.ALL;
    private static final int U = Pages.U;
    private static final String STEP = "A STEP";
    private static final int FETCH = 1;
    private static final int LOAD = 2;
    private static final int STORE = 4;
    private static final int EVERY = 7;
    private static final long[] PAGE_FAULTS = {-13, -14, -16};
    private static final long[] ACCESS_FAULTS = {-2, -6, -8};
    /** A page of RAM that is neither a table nor what traps need. */
    private static final long PAGE = RAM + 0x2000;

    private SentencesOfPages() {
    }

    static void run() {
        whetherTranslated();
        length();
        entries();
        entriesOutside();
        brokenEntries();
        tables();
        userPages();
        supervisorPages();
        fetchWithoutX();
        loadWithoutR();
        storeWithoutW();
        alignment();
        accessed();
        dirty();
        address();
        nothingWritten();
        orderOfFaults();
    }

    /** The kinds of access (bits) that are let through go to the address; the others are page faults. */
    private static void due(String what, HartBoard x, long v, int good, long address) {
        for (int kind = 0; kind < 3; kind++) {
            Check.due(what + ", kind " + kind, x.translate(v, kind), (good >> kind & 1) == 1 ? address : PAGE_FAULTS[kind]);
        }
    }

    private static void dueAccessFault(String what, HartBoard x, long v) {
        for (int kind = 0; kind < 3; kind++) {
            Check.due(what + ", kind " + kind, x.translate(v, kind), ACCESS_FAULTS[kind]);
        }
    }

    private static HartBoard leaf(int privilege, long flags) {
        return new Pages(privilege).leaf(PAGE, flags).board();
    }

    private static void whetherTranslated() {
        Sentence.of(15, STEP, "ADDRESSES are translated if SATP's MODE is 8 and the privilege is below 3 (for loads and"
            + " stores: MPP's, if MPRV is 1).");
        long v = AT + 5;
        for (int privilege : Steps.PRIVILEGES) {
            HartBoard x = leaf(privilege, ALL | (privilege == 0 ? U : 0));
            due("MODE 8 at " + privilege, x, v, EVERY, privilege < 3 ? PAGE + 5 : v);
            x.order(Code.SATP, Pages.ROOT / 4096);
            due("MODE 0 at " + privilege, x, v, EVERY, v);
        }
        for (int privilege : Steps.PRIVILEGES) {
            for (int mpp : Steps.PRIVILEGES) {
                HartBoard x = leaf(privilege, ALL);
                x.order(Code.MSTATUS, mpp << 11);
                int without = privilege == 0 ? 0 : EVERY;
                due("without MPRV, MPP " + mpp + " at " + privilege, x, v, without, privilege == 3 ? v : PAGE + 5);
                x.order(Code.MSTATUS, mpp << 11 | 1 << 17);
                long byMpp = mpp == 3 ? v : mpp == 1 ? PAGE + 5 : 0;
                Check.due("a fetch with MPRV", x.translate(v, 0), privilege == 3 ? v : privilege == 1 ? PAGE + 5 : -13);
                Check.due("a load with MPRV, MPP " + mpp + " at " + privilege, x.translate(v, 1), mpp == 0 ? -14 : byMpp);
                Check.due("a store with MPRV, MPP " + mpp + " at " + privilege, x.translate(v, 2), mpp == 0 ? -16 : byMpp);
            }
        }
        HartBoard x = leaf(3, ALL);
        x.order(Code.MSTATUS, 1 << 11 | 1 << 17);
        x.poke(PAGE + 8, 8, 77);
        Check.due("a load in a step", Steps.loaded(x, 3, AT + 8), 77);
        Steps.stored(x, 3, AT + 16, 78);
        Check.due("a store in a step", x.peek(PAGE + 16), 78);
    }

    private static void length() {
        Sentence.of(15, STEP, "V must be SX(V, 39), else page fault.");
        HartBoard x = leaf(1, ALL);
        // Leaves of 2^30 bytes at the last place below 2^38, the first above, the first and the last below 2^64.
        for (int k : new int[] {0, 255, 256, 511}) {
            x.poke(Pages.ROOT + 8 * k, 8, (long) k << 28 | ALL);
        }
        due("the greatest below 2^38", x, (1L << 38) - 1, EVERY, 256L * (1L << 30) - 1);
        due("2^38", x, 1L << 38, 0, 0);
        due("2^38 with all bits above", x, -1L << 38, EVERY, 256L << 30);
        due("one less", x, (-1L << 38) - 1, 0, 0);
        due("the last address", x, -1, EVERY, (512L << 30) - 1);
        due("0", x, 0, EVERY, 0);
        for (int bit = 38; bit < 64; bit++) {
            due("bit " + bit + " alone", x, 1L << bit, 0, 0);
            due("all but bit " + bit, x, ~(1L << bit), 0, 0);
        }
        x.order(Code.SATP, 8L << 60);
        due("before any table is looked at", x, 1L << 38, 0, 0);
        dueAccessFault("a good one then", x, (1L << 38) - 1);
    }

    private static void entries() {
        Sentence.of(15, STEP, "Then for level i = 2, 1, 0, from table T (ROOT * 4096 at first): entry E, 8 bytes at T + 8 *"
            + " V[20 + 9 i .. 12 + 9 i];");
        int[][] rows = {{0, 0, 0}, {255, 511, 511}, {511, 0, 511}, {256, 511, 0}, {1, 2, 3}, {128, 256, 64}};
        for (int[] row : rows) {
            HartBoard x = new HartBoard(16);
            x.poke(Pages.ROOT + 8 * row[0], 8, Pages.entry(Pages.MIDDLE, 1));
            x.poke(Pages.MIDDLE + 8 * row[1], 8, Pages.entry(Pages.LAST, 1));
            x.poke(Pages.LAST + 8 * row[2], 8, Pages.entry(PAGE, ALL));
            x.order(Code.SATP, 8L << 60 | 0xffffL << 44 | Pages.ROOT / 4096);
            x.lower(1);
            long v = ((long) row[0] << 30) << 25 >> 25 | row[1] << 21 | row[2] << 12;
            due("entries " + row[0] + ", " + row[1] + ", " + row[2], x, v | 0xfff, EVERY, PAGE + 0xfff);
            due("one page behind", x, v + 4096, 0, 0);
            due("one page before", x, v - 4096, 0, 0);
        }
    }

    private static void entriesOutside() {
        Sentence.of(15, STEP, "outside of RAM: access fault.");
        long first = RAM / 4096;
        for (long root : new long[] {0, first - 1, first + 16, first + (1L << 20), (1L << 44) - 1, 1L << 43}) {
            HartBoard x = leaf(1, ALL);
            x.order(Code.SATP, 8L << 60 | root);
            dueAccessFault("ROOT " + Steps.hex(root), x, AT);
            dueAccessFault("ROOT " + Steps.hex(root) + ", its last entry", x, -1);
        }
        for (long table : new long[] {0, RAM - 4096, END, 1L << 55, (1L << 56) - 4096}) {
            HartBoard x = leaf(1, ALL);
            x.poke(Pages.ROOT + 8, 8, Pages.entry(table, 1));
            dueAccessFault("the second table at " + Steps.hex(table), x, AT);
            HartBoard y = leaf(1, ALL);
            y.poke(Pages.MIDDLE + 8, 8, Pages.entry(table, 1));
            dueAccessFault("the third table at " + Steps.hex(table), y, AT);
            y.set(32, AT);
            Steps.traps("a fetch by it", y, 1, AT);
            y.order(Code.MSTATUS, 1 << 11 | 1 << 17);
            Steps.loadTraps(y, 0, AT, 5);
            y.order(Code.MSTATUS, 1 << 11 | 1 << 17);
            Steps.storeTraps(y, 0, AT, 7);
        }
        HartBoard x = leaf(1, ALL);
        x.order(Code.SATP, 8L << 60 | END / 4096 - 1);
        x.poke(END - 8, 8, 5L << 28 | ALL);
        due("the last entry of RAM", x, -1, EVERY, (6L << 30) - 1);
        x.order(Code.SATP, 8L << 60 | first);
        x.poke(RAM, 8, 5L << 28 | ALL);
        due("the first entry of RAM", x, 0, EVERY, 5L << 30);
    }

    /** The entry of each table in turn; what was let through is so no more. */
    private static void breaks(String what, long setBits, long clearBits) {
        for (long table : new long[] {Pages.ROOT, Pages.MIDDLE, Pages.LAST}) {
            HartBoard x = leaf(1, ALL);
            due("before", x, AT, EVERY, PAGE);
            x.poke(table + 8, 8, x.peek(table + 8) & ~clearBits | setBits);
            due(what + " at " + Steps.hex(table), x, AT, 0, 0);
        }
    }

    private static void brokenEntries() {
        Sentence.of(15, STEP, "Page fault, if E's bit 0 (V) is 0,");
        breaks("bit 0 is 0", 0, 1);
        Sentence.of(15, STEP, "or bit 1 (R) is 0 and bit 2 (W) is 1,");
        breaks("W without R", 4, 2);
        breaks("W and X without R", 12, 2);
        Sentence.of(15, STEP, "or E[63..54] is not 0.");
        for (int bit = 54; bit < 64; bit++) {
            breaks("bit " + bit, 1L << bit, 0);
        }
        due("bits 53..10 all 1", new Pages(1).leaf((1L << 56) - 4096, ALL).board(), AT, EVERY, (1L << 56) - 4096);
        due("bits 9, 8 and 5 are not asked", leaf(1, ALL | 0x320), AT, EVERY, PAGE);
    }

    private static void tables() {
        Sentence.of(15, STEP, "If R and bit 3 (X) are both 0: page fault, if bit 4, 6 or 7 is 1,");
        for (long table : new long[] {Pages.ROOT, Pages.MIDDLE}) {
            for (int flags = 0; flags < 1024; flags += 16) {
                HartBoard x = leaf(1, ALL);
                x.poke(table + 8, 8, Pages.entry(table + 4096, 1 | flags));
                due("a table with bits " + flags, x, AT, (flags & 0xd0) == 0 ? EVERY : 0, PAGE);
            }
        }
        Sentence.of(15, STEP, "or i is 0;");
        for (int flags : new int[] {1, 0x321, 0x11, 0x41, 0x81}) {
            due("no leaf at the last level", leaf(1, flags), AT, 0, 0);
        }
        HartBoard outside = new Pages(1).leaf(0, 1).board();
        due("no table is looked for behind it", outside, AT, 0, 0);
        Sentence.of(15, STEP, "else T = E[53..10] * 4096, next level.");
        for (long table : new long[] {RAM, RAM + 0x3000, END - 4096}) {
            HartBoard x = leaf(1, ALL);
            x.poke(Pages.MIDDLE + 8, 8, Pages.entry(table, 1));
            due("a table without a leaf", x, AT, 0, 0);
            x.poke(table + 8, 8, Pages.entry(PAGE, ALL));
            due("a table at " + Steps.hex(table), x, AT, EVERY, PAGE);
        }
        due("tables lead on at privilege 0, too", leaf(0, ALL | U), AT, EVERY, PAGE);
        for (int bit = 20; bit < 54; bit++) {
            HartBoard x = leaf(1, ALL);
            x.poke(Pages.MIDDLE + 8, 8, Pages.entry(Pages.LAST, 1) ^ 1L << bit);
            dueAccessFault("a table with bit " + bit, x, AT);
        }
    }

    private static void userPages() {
        Sentence.of(15, STEP, "Otherwise it is a LEAF; page fault, if: privilege 0 and bit 4 (U) is 0;");
        due("privilege 0 without U", leaf(0, ALL), AT, 0, 0);
        due("privilege 0 with U", leaf(0, ALL | U), AT, EVERY, PAGE);
        for (int status : new int[] {1 << 18, 1 << 19, 3 << 18}) {
            HartBoard x = leaf(0, ALL);
            x.order(Code.MSTATUS, status);
            due("SUM and MXR do not help", x, AT, 0, 0);
        }
        HartBoard large = leaf(0, 0);
        large.poke(Pages.ROOT + 8, 8, 2L << 28 | ALL);
        due("a large page without U", large, AT, 0, 0);
    }

    private static void supervisorPages() {
        Sentence.of(15, STEP, "privilege 1 and U is 1, for a fetch, or without SUM;");
        HartBoard x = leaf(1, ALL | U);
        due("U without SUM", x, AT, 0, 0);
        x.order(Code.MSTATUS, 1 << 19);
        due("U with MXR", x, AT, 0, 0);
        x.order(Code.MSTATUS, 1 << 18);
        due("U with SUM", x, AT, LOAD | STORE, PAGE);
        HartBoard y = leaf(1, ALL);
        y.order(Code.MSTATUS, 1 << 18);
        due("no U with SUM", y, AT, EVERY, PAGE);
        HartBoard z = leaf(3, ALL | U);
        z.order(Code.MSTATUS, 1 << 17 | 1 << 11);
        Check.due("by MPRV, without SUM", z.translate(AT, 1), -14);
        z.order(Code.MSTATUS, 1 << 17 | 1 << 11 | 1 << 18);
        Check.due("by MPRV, with SUM", z.translate(AT, 1), PAGE);
    }

    private static void fetchWithoutX() {
        Sentence.of(15, STEP, "a fetch without X;");
        due("R, W", leaf(1, 0xc7), AT, LOAD | STORE, PAGE);
        due("R", leaf(1, 0xc3), AT, LOAD, PAGE);
        due("X", leaf(1, 0xc9), AT, FETCH, PAGE);
        HartBoard x = leaf(1, 0xc7);
        x.order(Code.MSTATUS, 1 << 19);
        due("MXR does not help", x, AT, LOAD | STORE, PAGE);
        x.set(32, AT);
        Steps.traps("a fetch", x, 12, AT);
    }

    private static void loadWithoutR() {
        Sentence.of(15, STEP, "a load without R (with MXR: without R and X);");
        HartBoard x = leaf(1, 0xc9);
        due("X alone", x, AT, FETCH, PAGE);
        x.order(Code.MSTATUS, 1 << 19);
        due("X alone with MXR", x, AT, FETCH | LOAD, PAGE);
        x.order(Code.MSTATUS, 1 << 18);
        due("X alone with SUM", x, AT, FETCH, PAGE);
        HartBoard y = leaf(1, 0xc3);
        y.order(Code.MSTATUS, 1 << 19);
        due("R alone with MXR", y, AT, LOAD, PAGE);
        HartBoard none = leaf(1, 0x01);
        none.order(Code.MSTATUS, 1 << 19);
        due("neither, with MXR", none, AT, 0, 0);
    }

    private static void storeWithoutW() {
        Sentence.of(15, STEP, "a store without W;");
        due("R, X", leaf(1, 0xcb), AT, FETCH | LOAD, PAGE);
        due("R, W, X", leaf(1, 0xcf), AT, EVERY, PAGE);
        HartBoard x = leaf(3, 0xcb);
        x.order(Code.MSTATUS, 1 << 17 | 1 << 11);
        Steps.storeTraps(x, 3, AT, 15);
        Check.due("nothing is stored", x.peek(PAGE), 0);
    }

    private static void alignment() {
        Sentence.of(15, STEP, "E[9 + 9 i .. 10] is not 0 for i above 0;");
        for (int bit = 10; bit < 54; bit++) {
            HartBoard x = leaf(1, 0);
            x.poke(Pages.ROOT + 8, 8, 1L << bit | ALL);
            due("level 2, bit " + bit, x, AT, bit < 28 ? 0 : EVERY, 1L << bit + 2 | AT & (1L << 30) - 1);
            HartBoard y = leaf(1, 0);
            y.poke(Pages.MIDDLE + 8, 8, 1L << bit | ALL);
            due("level 1, bit " + bit, y, AT, bit < 19 ? 0 : EVERY, 1L << bit + 2 | AT & (1L << 21) - 1);
            HartBoard z = leaf(1, 0);
            z.poke(Pages.LAST + 8, 8, 1L << bit | ALL);
            due("level 0, bit " + bit, z, AT, EVERY, 1L << bit + 2);
        }
    }

    private static void accessed() {
        Sentence.of(15, STEP, "bit 6 (A) is 0;");
        due("without A", leaf(1, ALL & ~0x40), AT, 0, 0);
        due("without A, without D", leaf(1, ALL & ~0xc0), AT, 0, 0);
        due("with A, with D", leaf(1, ALL), AT, EVERY, PAGE);
    }

    private static void dirty() {
        Sentence.of(15, STEP, "a store and bit 7 (D) is 0.");
        due("without D", leaf(1, ALL & ~0x80), AT, FETCH | LOAD, PAGE);
        HartBoard x = leaf(3, ALL & ~0x80);
        x.order(Code.MSTATUS, 1 << 17 | 1 << 11);
        Check.due("a load", Steps.loaded(x, 3, AT), 0);
        Steps.storeTraps(x, 3, AT, 15);
        x.order(Code.MSTATUS, 1 << 17 | 1 << 11);
        x.set(6, AT);
        Steps.trapsOf("an atomic store", x, Code.atomic(0, 3, 5, 6, 7), 15, AT);
        x.order(Code.MSTATUS, 1 << 17 | 1 << 11);
        Steps.reserved(x, 3, AT);
    }

    private static void address() {
        Sentence.of(15, STEP, "The address is E[53..10] * 4096 with the lowest 12 + 9 i bits of V in place of its own.");
        long high = 0x3ffL << 46;
        long v = AT | 0x3ffff000L | 0xabc;
        HartBoard x = leaf(1, 0);
        x.poke(Pages.ROOT + 8, 8, 0x3ffffffL << 28 | ALL);
        due("the highest page of 2^30", x, v, EVERY, (1L << 56) - (1L << 30) | v & (1L << 30) - 1);
        due("its first byte", x, 1L << 30, EVERY, (1L << 56) - (1L << 30));
        due("its last byte", x, (2L << 30) - 1, EVERY, (1L << 56) - 1);
        HartBoard y = leaf(1, 0);
        y.poke(Pages.MIDDLE + 8, 8, 0x7ffffffffL << 19 | ALL);
        due("the first byte of the highest page of 2^21", y, 1L << 30 | 1L << 21, EVERY, (1L << 56) - (1L << 21));
        due("its last byte", y, (1L << 30 | 2L << 21) - 1, EVERY, (1L << 56) - 1);
        HartBoard z = new Pages(1).leaf(high, ALL).board();
        due("the first byte of a page", z, AT, EVERY, high);
        due("its last byte", z, AT + 4095, EVERY, high + 4095);
    }

    private static void nothingWritten() {
        Sentence.of(15, STEP, "(Nothing is written there.)");
        for (int flags : new int[] {ALL, ALL & ~0x40, ALL & ~0x80, ALL & ~0xc0}) {
            HartBoard x = leaf(1, flags);
            for (int kind = 0; kind < 3; kind++) {
                x.translate(AT, kind);
            }
            x.poke(PAGE, 4, Code.store(3, 0, 6, 8));
            x.set(6, AT);
            x.set(32, AT);
            x.step(1);
            Check.due("the leaf with " + flags, x.peek(Pages.LAST + 8), Pages.entry(PAGE, flags));
            Check.due("the second table", x.peek(Pages.MIDDLE + 8), Pages.entry(Pages.LAST, 1));
            Check.due("the first table", x.peek(Pages.ROOT + 8), Pages.entry(Pages.MIDDLE, 1));
        }
    }

    private static void orderOfFaults() {
        Sentence.of(14, STEP, "LOADS and STORES of n bytes at V: misaligned, if V is no multiple of n; then V is translated;"
            + " then the access.");
        HartBoard x = new Pages(3).leaf(0x30000000L, ALL).board();
        for (int f = 0; f < 4; f++) {
            int n = 1 << f;
            for (int off = 1; off < n; off++) {
                again(x);
                Steps.loadTraps(x, f, AT + off, 4);
                again(x);
                Steps.storeTraps(x, f, AT + 4096 + off, 6);
            }
            for (int at = 0; at < 8; at += n) {
                again(x);
                Steps.loadTraps(x, f, AT + 4096 + at, 13);
                again(x);
                Steps.storeTraps(x, f, AT + 4096 + at, 15);
                again(x);
                Steps.loadTraps(x, f, AT + at, 5);
                again(x);
                Steps.storeTraps(x, f, AT + at, 7);
            }
            x = new Pages(3).leaf(0x30000000L, ALL).board();
        }
        HartBoard line = new Pages(3).leaf(Steps.LINE, ALL).board();
        again(line);
        Steps.stored(line, 0, AT, 0x41);
        Check.due("a device by its page", line.out(0), 0x41);
        Steps.loadTraps(line, 0, AT + 8, 5);
    }

    /** Loads and stores by the machine as by the supervisor. */
    private static void again(HartBoard x) {
        x.order(Code.MSTATUS, 1 << 17 | 1 << 11);
    }
}
