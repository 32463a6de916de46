/** Promise 14: loads, stores, atomic instructions and the devices, by way of steps. Promise 17: out. */
public final class AccessTest {
    private static final long RAM = Code.RAM;
    private static final long END = RAM + 65536;
    private static final long SOFT = 0x2000000L;
    private static final long COMPARE = 0x2004000L;
    private static final long TIME = 0x200bff8L;
    private static final long CONTROLLER = 0xc000000L;
    private static final long LINE = 0x10000000L;

    private static HartBoard board() {
        HartBoard x = new HartBoard(16);
        x.order(0x305, RAM + 0x800);
        return x;
    }

    private static long load(HartBoard x, int f, long address) {
        x.set(6, address);
        x.set(5, 0x5a5a);
        Check.due("load f " + f + " at " + Long.toHexString(address), Code.one(x, Code.load(f, 5, 6, 0)), 1);
        return x.get(5);
    }

    private static void store(HartBoard x, int f, long address, long v) {
        x.set(6, address);
        x.set(7, v);
        Check.due("store f " + f + " at " + Long.toHexString(address), Code.one(x, Code.store(f, 7, 6, 0)), 1);
    }

    /** The instruction traps: cause, value, and x5 stays. */
    private static void dueTrap(HartBoard x, int w, long address, int cause) {
        x.set(6, address);
        x.set(5, 0x5a5a);
        String what = Integer.toHexString(w) + " at " + Long.toHexString(address);
        Check.due(what + " traps", Code.one(x, w), 0);
        Check.due(what + ": CAUSE", x.control(0x342), cause);
        Check.due(what + ": VALUE", x.control(0x343), address);
        Check.due(what + ": x5", x.get(5), 0x5a5a);
    }

    private static void dueLoadTrap(HartBoard x, int f, long address, int cause) {
        dueTrap(x, Code.load(f, 5, 6, 0), address, cause);
    }

    private static void dueStoreTrap(HartBoard x, int f, long address, int cause) {
        dueTrap(x, Code.store(f, 7, 6, 0), address, cause);
    }

    private static void ram() {
        HartBoard x = board();
        x.poke(RAM + 64, 8, 0x8182838485868788L);
        long[] want = {0xffffffffffffff88L, 0xffffffffffff8788L, 0xffffffff85868788L, 0x8182838485868788L, 0x88, 0x8788,
            0x85868788L};
        for (int f = 0; f < 7; f++) {
            Check.due("load f " + f, load(x, f, RAM + 64), want[f]);
        }
        Check.due("load of a byte further", load(x, 4, RAM + 67), 0x85);
        Check.due("load of two further", load(x, 5, RAM + 70), 0x8182);
        Check.due("load of four further", load(x, 2, RAM + 68), 0xffffffff81828384L);
        x.set(6, RAM + 64 + 2048);
        Code.one(x, Code.load(3, 5, 6, -2048));
        Check.due("offset -2048", x.get(5), 0x8182838485868788L);
        x.set(6, RAM + 64 - 2047);
        Code.one(x, Code.load(4, 5, 6, 2047));
        Check.due("offset 2047", x.get(5), 0x88);
        for (int f = 0; f < 4; f++) {
            int n = 1 << f;
            for (int at = 0; at < 8; at += n) {
                x.poke(RAM + 72, 8, -1);
                store(x, f, RAM + 72 + at, 0x1122334455667788L);
                long mask = (n == 8 ? -1L : (1L << 8 * n) - 1) << 8 * at;
                Check.due("store of " + n + " at " + at, x.peek(RAM + 72), ~mask | 0x1122334455667788L << 8 * at & mask);
            }
        }
        x.set(6, RAM + 72 + 2048);
        Code.one(x, Code.store(0, 0, 6, -2048));
        Check.due("store with offset", x.peek(RAM + 72) & 255, 0);
        misaligned();
        for (int f = 0; f < 4; f++) {
            int n = 1 << f;
            Check.due("the last bytes", load(x, f, END - n), 0);
            dueLoadTrap(x, f, END, 5);
            dueLoadTrap(x, f, RAM - n, 5);
            dueLoadTrap(x, f, 0, 5);
            dueLoadTrap(x, f, -8, 5);
            store(x, f, END - n, 0);
            dueStoreTrap(x, f, END, 7);
            dueStoreTrap(x, f, RAM - n, 7);
            dueStoreTrap(x, f, -8, 7);
        }
    }

    private static void misaligned() {
        for (int f = 1; f < 7; f++) {
            HartBoard x = board();
            int n = 1 << (f & 3);
            for (int off = 1; off < n; off++) {
                dueLoadTrap(x, f, RAM + 64 + off, 4);
                dueLoadTrap(x, f, off, 4);
                if (f < 4) {
                    dueStoreTrap(x, f, RAM + 64 + off, 6);
                    dueStoreTrap(x, f, END + off, 6);
                }
            }
        }
    }

    private static void timer() {
        HartBoard x = board();
        store(x, 2, SOFT, -1);
        Check.due("SOFT", load(x, 2, SOFT), 1);
        store(x, 2, SOFT, -2);
        Check.due("SOFT 0", load(x, 6, SOFT), 0);
        store(x, 3, COMPARE, 0x1122334485667788L);
        Check.due("COMPARE", load(x, 3, COMPARE), 0x1122334485667788L);
        Check.due("its lower half", load(x, 2, COMPARE), 0xffffffff85667788L);
        Check.due("its lower half unsigned", load(x, 6, COMPARE), 0x85667788L);
        Check.due("its upper half", load(x, 2, COMPARE + 4), 0x11223344);
        store(x, 2, COMPARE, -1);
        Check.due("lower half written", load(x, 3, COMPARE), 0x11223344ffffffffL);
        store(x, 2, COMPARE + 4, 0xaa00000007L);
        Check.due("upper half written", load(x, 3, COMPARE), 0x7ffffffffL);
        store(x, 3, TIME, 100);
        Check.due("TIME counts up in the step that writes it", x.control(0xc01), 101);
        Check.due("TIME", load(x, 3, TIME), 101);
        store(x, 2, TIME, -1);
        Check.due("TIME goes over into the upper half", x.control(0xc01), 0x100000000L);
        Check.due("its upper half", load(x, 2, TIME + 4), 1);
        store(x, 2, TIME + 4, 5);
        Check.due("upper half of TIME written", x.control(0xc01), 0x500000002L);
        long[] wrong = {SOFT + 4, SOFT + 8, COMPARE - 4, COMPARE + 8, TIME - 4, TIME + 8, SOFT - 4};
        for (long address : wrong) {
            dueLoadTrap(x, 2, address, 5);
            dueStoreTrap(x, 2, address, 7);
        }
        dueLoadTrap(x, 3, SOFT, 5);
        dueStoreTrap(x, 3, SOFT, 7);
        for (long address : new long[] {SOFT, COMPARE, TIME}) {
            for (int f = 0; f < 2; f++) {
                dueLoadTrap(x, f, address, 5);
                dueStoreTrap(x, f, address, 7);
            }
        }
    }

    private static void controllerPlaces() {
        HartBoard x = board();
        for (int s = 1; s <= 7; s++) {
            store(x, 2, CONTROLLER + 4 * s, -1 - s);
            Check.due("PRIORITY of " + s, load(x, 2, CONTROLLER + 4 * s), -1 - s & 7);
        }
        for (int c = 0; c < 2; c++) {
            store(x, 2, CONTROLLER + 0x2000 + 0x80 * c, -1);
            Check.due("ENABLE", load(x, 2, CONTROLLER + 0x2000 + 0x80 * c), 0xfe);
            store(x, 2, CONTROLLER + 0x200000 + 0x1000 * c, -3);
            Check.due("THRESHOLD", load(x, 2, CONTROLLER + 0x200000 + 0x1000 * c), 5);
            Check.due("CLAIM", load(x, 2, CONTROLLER + 0x200004 + 0x1000 * c), 0);
        }
        x.raise(4, true);
        store(x, 2, CONTROLLER + 0x1000, 0);
        Check.due("PENDING is not written", load(x, 2, CONTROLLER + 0x1000), 16);
        wrongPlaces();
    }

    private static void wrongPlaces() {
        HartBoard x = board();
        long[] wrong = {0, 0x20, 0xffc, 0x1004, 0x1080, 0x2004, 0x2084, 0x2100, 0x1fff00, 0x200008, 0x201008, 0x202000, 0x202004};
        for (long at : wrong) {
            dueLoadTrap(x, 2, CONTROLLER + at, 5);
            dueStoreTrap(x, 2, CONTROLLER + at, 7);
        }
        HartBoard y = board();
        for (long at : new long[] {8, 0x1000, 0x2000, 0x200000}) {
            for (int f : new int[] {0, 1, 3}) {
                dueLoadTrap(y, f, CONTROLLER + at, 5);
                dueStoreTrap(y, f, CONTROLLER + at, 7);
            }
        }
        dueLoadTrap(y, 2, CONTROLLER + 0x100000000L + 4, 5);
    }

    private static void line() {
        HartBoard x = board();
        Check.dueNoSuchElement("no output", () -> x.out(0));
        Check.due("status", load(x, 4, LINE + 5), 96);
        Check.due("no input", load(x, 0, LINE), 0);
        x.feed(3, 0x8041ff);
        x.type();
        Check.due("status with input", load(x, 4, LINE + 5), 97);
        Check.due("a byte with its sign", load(x, 0, LINE), -1);
        Check.due("a byte", load(x, 4, LINE), 0x41);
        Check.due("status with one byte", load(x, 4, LINE + 5), 97);
        x.set(6, LINE);
        Code.one(x, Code.load(4, 0, 6, 0));
        Check.due("a byte read into x0 goes too", x.look(1), 0);
        store(x, 0, LINE + 1, 0x1ff);
        Check.due("ENABLE", load(x, 4, LINE + 1), 255);
        for (int at : new int[] {2, 3, 4, 5, 6, 7}) {
            store(x, 0, LINE + at, -1);
            Check.due("what is not written", load(x, 4, LINE + at), at == 5 ? 96 : 0);
        }
        for (int f = 1; f < 4; f++) {
            dueLoadTrap(x, f, LINE, 5);
            dueStoreTrap(x, f, LINE, 7);
        }
        dueLoadTrap(x, 0, LINE + 8, 5);
        dueStoreTrap(x, 0, LINE + 8, 7);
        dueLoadTrap(x, 0, LINE - 1, 5);
        dueLoadTrap(x, 4, LINE | Long.MIN_VALUE, 5);
        Check.due("nothing was written", x.look(2), 0);
        store(x, 0, LINE, 0x1fe);
        store(x, 0, LINE, 0x41);
        Check.due("output", x.look(2), 2);
        Check.due("its first byte", x.out(0), 0xfe);
        Check.due("its second byte", x.out(1), 0x41);
        for (int k : new int[] {2, -1, Integer.MAX_VALUE, Integer.MIN_VALUE}) {
            Check.dueNoSuchElement("out " + k, () -> x.out(k));
        }
        x.set(6, LINE);
        x.set(7, 0);
        Code.begin(x, RAM, Code.store(0, 7, 6, 0), Code.addi(7, 7, 1), Code.jal(0, -8));
        for (int k = 0; k < 4; k++) {
            x.step(4096);
        }
        Check.due("output has 4096 at most", x.look(2), 4096);
        Check.due("the last byte", x.out(4095), 4093 & 255);
        Check.due("byte 2", x.out(2), 0);
        Check.dueNoSuchElement("out 4096", () -> x.out(4096));
    }

    private static void atomics() {
        int[] what = {1, 0, 4, 12, 8, 16, 20, 24, 28};
        long a = 0x80000000ffffff00L;
        long b = 0x0000000f00000f0fL;
        long[] eight = {b, a + b, a ^ b, a & b, a | b, a, b, b, a};
        long[] four = {0xf0f, 0xe0f, 0xfffff00fL, 0xf00, 0xffffff0fL, 0xffffff00L, 0xf0f, 0xf0f, 0xffffff00L};
        for (int k = 0; k < what.length; k++) {
            for (int bits = 0; bits < 4; bits++) {
                HartBoard x = board();
                x.poke(RAM + 64, 8, a);
                x.set(6, RAM + 64);
                x.set(7, b);
                Check.due("atomic is done", Code.one(x, Code.atomic(what[k], 3, 5, 6, 7) | bits << 25), 1);
                Check.due("atomic " + what[k] + " of 8 read", x.get(5), a);
                Check.due("atomic " + what[k] + " of 8", x.peek(RAM + 64), eight[k]);
                x.poke(RAM + 64, 8, a);
                Check.due("atomic is done", Code.one(x, Code.atomic(what[k], 2, 7, 6, 7)), 1);
                Check.due("atomic " + what[k] + " of 4 read", x.get(7), -256);
                Check.due("atomic " + what[k] + " of 4", x.peek(RAM + 64), 0x8000000000000000L | four[k]);
            }
        }
        for (int k = 0; k < what.length; k++) {
            HartBoard x = board();
            int w = Code.atomic(what[k], 3, 5, 6, 7);
            dueTrap(x, w, RAM + 68, 6);
            dueTrap(x, w, RAM + 65, 6);
            dueTrap(x, w, END, 7);
            dueTrap(x, w, COMPARE, 7);
            dueTrap(x, Code.atomic(what[k], 2, 5, 6, 7), CONTROLLER + 4, 7);
            dueTrap(x, Code.atomic(what[k], 2, 5, 6, 7), RAM + 66, 6);
        }
        otherAtomics();
    }

    private static void otherAtomics() {
        HartBoard x = board();
        dueTrap(x, Code.atomic(2, 3, 5, 6, 0), RAM + 68, 4);
        dueTrap(x, Code.atomic(2, 2, 5, 6, 0), RAM + 66, 4);
        dueTrap(x, Code.atomic(2, 3, 5, 6, 0), COMPARE, 5);
        dueTrap(x, Code.atomic(2, 2, 5, 6, 0), SOFT, 5);
        dueTrap(x, Code.atomic(3, 3, 5, 6, 7), RAM + 68, 6);
        dueTrap(x, Code.atomic(3, 3, 5, 6, 7), COMPARE, 7);
        for (int k = 0; k < 32; k++) {
            boolean told = k < 4 || k % 4 == 0;
            HartBoard y = board();
            for (int f = 0; f < 8; f++) {
                y.set(6, RAM + 64);
                boolean done = Code.one(y, Code.atomic(k, f, 5, 6, k == 2 ? 0 : 7)) == 1;
                Check.due("atomic " + k + " with f " + f, done == (told && (f == 2 || f == 3)));
                Check.due("else it is illegal", done || y.look(5) == 2);
            }
        }
        Check.due("2 with rs2", Code.one(x, Code.atomic(2, 3, 5, 6, 7)), 0);
        Check.due("is illegal", x.look(5), 2);
    }

    private static void reserve(HartBoard x, int f, long address) {
        x.set(6, address);
        Check.due("reserve", Code.one(x, Code.atomic(2, f, 5, 6, 0)), 1);
        Check.due("the reservation", x.look(7), 1 << f);
    }

    private static void dueStored(String what, HartBoard x, int f, long address, int want) {
        x.set(6, address);
        x.set(7, 0x77);
        x.poke(address, 1 << f, 0x11);
        Check.due(what + " is done", Code.one(x, Code.atomic(3, f, 5, 6, 7)), 1);
        Check.due(what, x.get(5), want);
        Check.due(what + ": memory", x.peek(address) & 255, want == 0 ? 0x77 : 0x11);
        Check.due(what + ": it goes", x.look(7), 0);
    }

    private static void reservations() {
        HartBoard x = board();
        x.poke(RAM + 64, 8, 0x80000000L);
        reserve(x, 2, RAM + 64);
        Check.due("read with its sign", x.get(5), -0x80000000L);
        dueStored("the same", x, 2, RAM + 64, 0);
        dueStored("a second time", x, 2, RAM + 64, 1);
        reserve(x, 2, RAM + 64);
        dueStored("another size", x, 3, RAM + 64, 1);
        reserve(x, 3, RAM + 64);
        dueStored("another size", x, 2, RAM + 64, 1);
        reserve(x, 2, RAM + 64);
        dueStored("another address", x, 2, RAM + 68, 1);
        reserve(x, 2, RAM + 64);
        reserve(x, 3, RAM + 128);
        dueStored("the earlier one", x, 2, RAM + 64, 1);
        int[][] stores = {{0, 64, 0}, {0, 67, 0}, {0, 68, 1}, {0, 63, 1}, {3, 64, 0}, {2, 68, 1}, {3, 56, 1}, {2, 64, 0},
            {1, 66, 0}};
        for (int[] one : stores) {
            reserve(x, 2, RAM + 64);
            store(x, one[0], RAM + one[1], 9);
            Check.due("a store of f " + one[0] + " at " + one[1], x.look(7), one[2] == 1 ? 4 : 0);
            dueStored("behind it", x, 2, RAM + 64, 1 - one[2]);
        }
        reserve(x, 3, RAM + 64);
        x.set(6, RAM + 68);
        Code.one(x, Code.atomic(0, 2, 5, 6, 0));
        Check.due("an atomic store ends it", x.look(7), 0);
        reserve(x, 3, RAM + 64);
        load(x, 3, RAM + 64);
        store(x, 0, LINE, 1);
        x.order(0x300, -1);
        x.lower(1);
        x.lower(3);
        x.set(1, 1);
        x.set(32, RAM);
        Check.due("loads, other stores, order and set leave it", x.look(7), 8);
        Code.one(x, 0);
        Check.due("a trap ends it", x.look(7), 0);
        reserve(x, 3, RAM + 64);
        Code.one(x, Code.MRET);
        Check.due("a return ends it", x.look(7), 0);
        x.lower(3);
        x.order(0x300, 0);
        reserve(x, 3, RAM + 64);
        Code.one(x, Code.SRET);
        Check.due("the supervisor's return ends it", x.look(7), 0);
        x.lower(3);
        reserve(x, 3, RAM + 64);
        x.order(0x304, 2);
        x.order(0x344, 2);
        x.order(0x300, 8);
        Check.due("an interrupt", x.step(1), 0);
        Check.due("ends it", x.look(7), 0);
    }

    public static void main(String[] args) {
        ram();
        timer();
        controllerPlaces();
        line();
        atomics();
        reservations();
        Check.end();
    }
}
