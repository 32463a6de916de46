/** A board with three tables of pages; entry 1 of each leads on, so that the page at AT has the leaf. */
final class Pages {
    static final long ROOT = Code.RAM + 0x4000;
    static final long MIDDLE = Code.RAM + 0x5000;
    static final long LAST = Code.RAM + 0x6000;
    static final long AT = 1L << 30 | 1L << 21 | 1L << 12;
    /** V, R, W, X, A, D: all but U. */
    static final int ALL = 0xcf;
    static final int U = 16;

    private final HartBoard x;

    Pages(int privilege) {
        x = new HartBoard(16);
        x.order(Code.MTVEC, Code.RAM + 0x800);
        x.order(Code.STVEC, Code.RAM + 0xc00);
        x.poke(ROOT + 8, 8, entry(MIDDLE, 1));
        x.poke(MIDDLE + 8, 8, entry(LAST, 1));
        x.order(Code.SATP, 8L << 60 | ROOT / 4096);
        x.lower(privilege);
    }

    static long entry(long address, long flags) {
        return address / 4096 << 10 | flags;
    }

    Pages leaf(long address, long flags) {
        x.poke(LAST + 8, 8, entry(address, flags));
        return this;
    }

    HartBoard board() {
        return x;
    }
}
