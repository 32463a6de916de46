/** Single instructions at the begin of RAM: x5 is what they give, x6 an address, x7 what is stored. */
final class Steps {
    static final long RAM = Code.RAM;
    static final long END = RAM + 16 * 4096;
    static final long TO_MACHINE = RAM + 0x800;
    static final long TO_SUPERVISOR = RAM + 0xc00;
    /** A place for data, away from the instructions. */
    static final long DATA = RAM + 0x1000;
    static final long SOFT = 0x2000000L;
    static final long COMPARE = 0x2004000L;
    static final long TIME = 0x200bff8L;
    static final long CONTROLLER = 0xc000000L;
    static final long LINE = 0x10000000L;
    static final int[] PRIVILEGES = {0, 1, 3};

    private Steps() {
    }

    /** 16 pages; traps go to places that differ for machine and supervisor. */
    static HartBoard board() {
        HartBoard x = new HartBoard(16);
        x.order(Code.MTVEC, TO_MACHINE);
        x.order(Code.STVEC, TO_SUPERVISOR);
        return x;
    }

    static HartBoard board(int privilege) {
        HartBoard x = board();
        x.lower(privilege);
        return x;
    }

    static String hex(long v) {
        return "0x" + Long.toHexString(v);
    }

    static void done(String what, HartBoard x, int w) {
        Check.due(what + " is done", Code.one(x, w), 1);
    }

    static long loaded(HartBoard x, int f, long address) {
        x.set(6, address);
        done("a load of f " + f + " at " + hex(address), x, Code.load(f, 5, 6, 0));
        return x.get(5);
    }

    static void stored(HartBoard x, int f, long address, long v) {
        x.set(6, address);
        x.set(7, v);
        done("a store of f " + f + " at " + hex(address), x, Code.store(f, 7, 6, 0));
    }

    /** The step at PC traps so. */
    static void traps(String what, HartBoard x, int cause, long value) {
        long pc = x.get(32);
        int before = x.look(3);
        Check.due(what + " traps", x.step(1), 0);
        Check.due(what + ": traps so far", x.look(3), before + 1);
        Check.due(what + ": CAUSE", x.look(5), cause);
        boolean given = x.look(0) == 1;
        Check.due(what + ": CAUSE there", x.control(given ? Code.SCAUSE : Code.MCAUSE), cause);
        Check.due(what + ": VALUE", x.control(given ? Code.STVAL : Code.MTVAL), value);
        Check.due(what + ": EPC", x.control(given ? Code.SEPC : Code.MEPC), pc);
    }

    /** The instruction, put at the begin of RAM, traps so. */
    static void trapsOf(String what, HartBoard x, int w, int cause, long value) {
        Code.begin(x, RAM, w);
        traps(what, x, cause, value);
    }

    static void illegal(HartBoard x, int w) {
        trapsOf(hex(w & 0xffffffffL), x, w, 2, w & 0xffffffffL);
    }

    static void loadTraps(HartBoard x, int f, long address, int cause) {
        x.set(6, address);
        x.set(5, 0x5a5a);
        trapsOf("a load of f " + f + " at " + hex(address), x, Code.load(f, 5, 6, 0), cause, address);
        Check.due("what the load was to give stays", x.get(5), 0x5a5a);
    }

    static void storeTraps(HartBoard x, int f, long address, int cause) {
        x.set(6, address);
        trapsOf("a store of f " + f + " at " + hex(address), x, Code.store(f, 7, 6, 0), cause, address);
    }

    /** Neither loads nor stores of n = 2^f bytes. */
    static void noAccess(HartBoard x, int f, long address) {
        loadTraps(x, f, address, 5);
        storeTraps(x, f, address, 7);
    }

    static void reserved(HartBoard x, int f, long address) {
        x.set(6, address);
        done("a reservation", x, Code.atomic(2, f, 5, 6, 0));
        Check.due("the size of the reservation", x.look(7), 1 << f);
    }

    static long priority(int source) {
        return CONTROLLER + 4L * source;
    }

    static long enable(int context) {
        return CONTROLLER + 0x2000 + 0x80L * context;
    }

    static long threshold(int context) {
        return CONTROLLER + 0x200000 + 0x1000L * context;
    }

    static long claim(int context) {
        return threshold(context) + 4;
    }
}
