import java.math.BigInteger;
import java.util.ArrayDeque;
import java.util.ArrayList;
import java.util.HashMap;
import java.util.List;
import java.util.Map;

/**
 * The document read a second time, as plainly as can be: bytes one by one, numbers without a bound, fields of
 * instructions by the document's own lists of bits, traps as exceptions. Slow, and only for comparison.
 */
final class Model {
    static final class Trap extends RuntimeException {
        private static final long serialVersionUID = 1L;
        final int cause;
        final long value;

        Trap(int cause, long value) {
            super(null, null, false, false);
            this.cause = cause;
            this.value = value;
        }
    }

    static final long BASE = 0x80000000L;
    static final BigInteger TWO64 = BigInteger.ONE.shiftLeft(64);

    final int pages;
    final byte[] ram;
    final long[] x = new long[32];
    long pc = BASE;
    int priv = 3;
    final List<Integer> tape = new ArrayList<>();
    final ArrayDeque<Integer> input = new ArrayDeque<>();
    final List<Integer> output = new ArrayList<>();
    /** Where RAM was written, in order: for those who compare it. */
    final List<Long> written = new ArrayList<>();
    final Map<Integer, Long> kept = new HashMap<>();
    int soft;
    long compare = -1;
    long time;
    int lineEnable;
    final int[] priority = new int[8];
    final int[] enable = new int[2];
    final int[] threshold = new int[2];
    final boolean[] driven = new boolean[8];
    final boolean[] pending = new boolean[8];
    final boolean[] claimed = new boolean[8];
    boolean reserved;
    long reservedAt;
    int reservedSize;
    int traps;
    int interrupts;
    int latest = -1;
    long going;

    Model(int pages) {
        this.pages = pages >= 16 && pages <= 64 ? pages : 16;
        ram = new byte[this.pages * 4096];
        int[] plain = {0x300, 0x302, 0x303, 0x304, 0x305, 0x306, 0x340, 0x341, 0x342, 0x343, 0x344, 0xb00, 0xb02,
            0x105, 0x106, 0x140, 0x141, 0x142, 0x143, 0x180};
        for (int number : plain) {
            kept.put(number, 0L);
        }
    }

    // ---- numbers

    static long bits(long v, int high, int low) {
        return (v >>> low) & (high - low == 63 ? -1L : (1L << (high - low + 1)) - 1);
    }

    /** The bits of v in the order that a list such as "10..7, 12..11, 5" tells, the first one highest. */
    static long pick(long v, String list) {
        long got = 0;
        for (String part : list.split(",")) {
            String[] ends = part.trim().split("\\.\\.");
            int high = Integer.parseInt(ends[0]);
            int low = Integer.parseInt(ends[ends.length - 1]);
            got = (got << (high - low + 1)) | bits(v, high, low);
        }
        return got;
    }

    static long sx(long v, int n) {
        if (n == 64) {
            return v;
        }
        long lowest = bits(v, n - 1, 0);
        return bits(v, n - 1, n - 1) == 1 ? lowest - (1L << n) : lowest;
    }

    static BigInteger unsigned(long v) {
        BigInteger b = BigInteger.valueOf(v);
        return v < 0 ? b.add(TWO64) : b;
    }

    static boolean lessUnsigned(long a, long b) {
        return unsigned(a).compareTo(unsigned(b)) < 0;
    }

    // ---- physical memory

    boolean inRam(long address, int n) {
        BigInteger a = unsigned(address);
        BigInteger begin = BigInteger.valueOf(BASE);
        return a.compareTo(begin) >= 0
            && a.add(BigInteger.valueOf(n)).compareTo(begin.add(BigInteger.valueOf(ram.length))) <= 0;
    }

    long ramRead(long address, int n) {
        long v = 0;
        for (int k = 0; k < n; k++) {
            v |= (ram[(int) (address - BASE) + k] & 255L) << (8 * k);
        }
        return v;
    }

    void ramWrite(long address, int n, long v) {
        written.add(address);
        for (int k = 0; k < n; k++) {
            ram[(int) (address - BASE) + k] = (byte) (v >>> (8 * k));
        }
    }

    static boolean within(long address, int n, long begin, int length) {
        return !lessUnsigned(address, begin) && address - begin >= 0 && address - begin + n <= length;
    }

    long read(long address, int n, int fault, long virtual) {
        if (inRam(address, n)) {
            return ramRead(address, n);
        }
        if (n == 4 && within(address, 4, 0x2000000L, 4)) {
            return soft;
        }
        if ((n == 4 || n == 8) && within(address, n, 0x2004000L, 8)) {
            return n == 8 ? compare : bits(compare, address == 0x2004000L ? 31 : 63, address == 0x2004000L ? 0 : 32);
        }
        if ((n == 4 || n == 8) && within(address, n, 0x200bff8L, 8)) {
            return n == 8 ? time : bits(time, address == 0x200bff8L ? 31 : 63, address == 0x200bff8L ? 0 : 32);
        }
        if (n == 1 && within(address, 1, 0x10000000L, 8)) {
            switch ((int) (address - 0x10000000L)) {
                case 0: return input.isEmpty() ? 0 : input.removeFirst();
                case 1: return lineEnable;
                case 5: return 96 + (input.isEmpty() ? 0 : 1);
                default: return 0;
            }
        }
        if (n == 4) {
            long at = address - 0xc000000L;
            for (int s = 1; s <= 7; s++) {
                if (at == 4 * s) {
                    return priority[s];
                }
            }
            if (at == 0x1000) {
                return set(pending);
            }
            for (int c = 0; c < 2; c++) {
                if (at == 0x2000 + 0x80 * c) {
                    return enable[c];
                }
                if (at == 0x200000 + 0x1000 * c) {
                    return threshold[c];
                }
                if (at == 0x200000 + 0x1000 * c + 4) {
                    return claim(c);
                }
            }
        }
        throw new Trap(fault, virtual);
    }

    void write(long address, int n, long v, long virtual) {
        if (inRam(address, n)) {
            ramWrite(address, n, v);
            for (int k = 0; k < n; k++) {
                long touched = address + k;
                if (reserved && touched >= reservedAt && touched < reservedAt + reservedSize) {
                    reserved = false;
                }
            }
            return;
        }
        if (n == 4 && within(address, 4, 0x2000000L, 4)) {
            soft = (int) (v & 1);
            return;
        }
        if ((n == 4 || n == 8) && within(address, n, 0x2004000L, 8)) {
            compare = patched(compare, (int) (address - 0x2004000L), n, v);
            return;
        }
        if ((n == 4 || n == 8) && within(address, n, 0x200bff8L, 8)) {
            time = patched(time, (int) (address - 0x200bff8L), n, v);
            return;
        }
        if (n == 1 && within(address, 1, 0x10000000L, 8)) {
            if (address == 0x10000000L && output.size() < 4096) {
                output.add((int) (v & 255));
            }
            if (address == 0x10000001L) {
                lineEnable = (int) (v & 255);
            }
            return;
        }
        if (n == 4 && writeController(address - 0xc000000L, bits(v, 31, 0))) {
            return;
        }
        throw new Trap(7, virtual);
    }

    static long patched(long whole, int at, int n, long v) {
        for (int k = 0; k < n; k++) {
            int shift = 8 * (at + k);
            whole = (whole & ~(255L << shift)) | (bits(v, 8 * k + 7, 8 * k) << shift);
        }
        return whole;
    }

    boolean writeController(long at, long v) {
        for (int s = 1; s <= 7; s++) {
            if (at == 4 * s) {
                priority[s] = (int) (v & 7);
                return true;
            }
        }
        if (at == 0x1000) {
            return true;
        }
        for (int c = 0; c < 2; c++) {
            if (at == 0x2000 + 0x80 * c) {
                enable[c] = (int) (v & 0xfe);
                return true;
            }
            if (at == 0x200000 + 0x1000 * c) {
                threshold[c] = (int) (v & 7);
                return true;
            }
            if (at == 0x200004 + 0x1000 * c) {
                if (v >= 1 && v <= 7 && (enable[c] >> v & 1) == 1) {
                    claimed[(int) v] = false;
                }
                return true;
            }
        }
        return false;
    }

    static int set(boolean[] sources) {
        int got = 0;
        for (int s = 1; s <= 7; s++) {
            got |= sources[s] ? 1 << s : 0;
        }
        return got;
    }

    int claim(int c) {
        for (int p = 7; p >= 1; p--) {
            for (int s = 1; s <= 7; s++) {
                if (pending[s] && (enable[c] >> s & 1) == 1 && priority[s] == p) {
                    pending[s] = false;
                    claimed[s] = true;
                    return s;
                }
            }
        }
        return 0;
    }

    boolean calls(int c) {
        boolean any = false;
        for (int s = 1; s <= 7; s++) {
            any |= pending[s] && (enable[c] >> s & 1) == 1 && priority[s] > threshold[c];
        }
        return any;
    }

    void settle() {
        for (int s = 1; s <= 7; s++) {
            boolean high = s == 1 ? (lineEnable & 1) == 1 && !input.isEmpty() : driven[s];
            if (high && !claimed[s]) {
                pending[s] = true;
            }
        }
    }

    // ---- control registers

    boolean status(int bit) {
        return (kept.get(0x300) >> bit & 1) == 1;
    }

    void status(int bit, boolean on) {
        long v = kept.get(0x300) & ~(1L << bit);
        kept.put(0x300, on ? v | 1L << bit : v);
    }

    int mpp() {
        return (int) bits(kept.get(0x300), 12, 11);
    }

    void mpp(int p) {
        status(11, (p & 1) == 1);
        status(12, (p & 2) == 2);
    }

    boolean told(int n) {
        return kept.containsKey(n) || n == 0x301 || n == 0xf11 || n == 0xf12 || n == 0xf13 || n == 0xf14
            || n == 0x100 || n == 0x104 || n == 0x144 || n == 0xc00 || n == 0xc01 || n == 0xc02;
    }

    static final int[] SHARED = {1, 5, 8, 18, 19};

    long readControl(int n) {
        switch (n) {
            case 0x300: return kept.get(0x300) + (10L << 32);
            case 0x301: return 0x8000000000141105L;
            case 0x344: {
                long v = kept.get(0x344);
                v |= soft == 1 ? 8 : 0;
                v |= lessUnsigned(time, compare) ? 0 : 0x80;
                v |= calls(0) ? 0x800 : 0;
                v |= calls(1) ? 0x200 : 0;
                return v;
            }
            case 0x100: {
                long v = 2L << 32;
                for (int bit : SHARED) {
                    v |= status(bit) ? 1L << bit : 0;
                }
                return v;
            }
            case 0x104: return kept.get(0x304) & kept.get(0x303);
            case 0x144: return readControl(0x344) & kept.get(0x303);
            case 0xc00: return kept.get(0xb00);
            case 0xc01: return time;
            case 0xc02: return kept.get(0xb02);
            case 0xf11: case 0xf12: case 0xf13: case 0xf14: return 0;
            default: return kept.get(n);
        }
    }

    void writeControl(int n, long v) {
        switch (n) {
            case 0x300: {
                for (int bit : new int[] {1, 3, 5, 7, 8, 17, 18, 19, 20, 21, 22}) {
                    status(bit, (v >> bit & 1) == 1);
                }
                if (bits(v, 12, 11) != 2) {
                    mpp((int) bits(v, 12, 11));
                }
                break;
            }
            case 0x302: kept.put(n, v & 0xb3ff); break;
            case 0x303: kept.put(n, v & 0x222); break;
            case 0x304: kept.put(n, v & 0xaaa); break;
            case 0x305: case 0x105: kept.put(n, v & ~2L); break;
            case 0x306: case 0x106: kept.put(n, v & 7); break;
            case 0x341: case 0x141: kept.put(n, v & ~1L); break;
            case 0x344: kept.put(n, v & 0x222); break;
            case 0x100: {
                for (int bit : SHARED) {
                    status(bit, (v >> bit & 1) == 1);
                }
                break;
            }
            case 0x104: {
                long given = kept.get(0x303);
                kept.put(0x304, (kept.get(0x304) & ~given) | (v & given));
                break;
            }
            case 0x144: {
                if ((kept.get(0x303) & 2) != 0) {
                    kept.put(0x344, (kept.get(0x344) & ~2L) | (v & 2));
                }
                break;
            }
            case 0x180: {
                if (bits(v, 63, 60) == 0 || bits(v, 63, 60) == 8) {
                    kept.put(n, v);
                }
                break;
            }
            default:
                if (kept.containsKey(n)) {
                    kept.put(n, v);
                }
        }
    }

    // ---- steps

    boolean once() {
        boolean done = false;
        int i = interrupt();
        if (i >= 0) {
            interrupts++;
            latest = 64 + i;
            boolean given = (kept.get(0x303) >> i & 1) == 1;
            enter(given, (1L << 63) + i, 0, 4 * i);
        } else {
            try {
                instruction();
                pc = going;
                done = true;
            } catch (Trap t) {
                traps++;
                latest = t.cause;
                boolean given = priv < 3 && (kept.get(0x302) >> t.cause & 1) == 1;
                enter(given, t.cause, t.value, 0);
            }
        }
        kept.put(0xb00, kept.get(0xb00) + 1);
        time++;
        if (done) {
            kept.put(0xb02, kept.get(0xb02) + 1);
        }
        settle();
        return done;
    }

    int interrupt() {
        for (int given = 0; given < 2; given++) {
            for (int i : new int[] {11, 3, 7, 9, 1, 5}) {
                if ((kept.get(0x303) >> i & 1) != given) {
                    continue;
                }
                boolean here = (readControl(0x344) >> i & 1) == 1 && (kept.get(0x304) >> i & 1) == 1;
                boolean open = given == 0 ? priv < 3 || status(3) : priv == 0 || priv == 1 && status(1);
                if (here && open) {
                    return i;
                }
            }
        }
        return -1;
    }

    void enter(boolean supervisor, long cause, long value, int spread) {
        int base = supervisor ? 0x100 : 0x300;
        kept.put(base + 0x41, pc);
        kept.put(base + 0x42, cause);
        kept.put(base + 0x43, value);
        if (supervisor) {
            status(5, status(1));
            status(1, false);
            status(8, priv == 1);
        } else {
            status(7, status(3));
            status(3, false);
            mpp(priv);
        }
        long tvec = kept.get(base + 5);
        pc = tvec & ~3L;
        if (cause < 0 && (tvec & 1) == 1) {
            pc += spread;
        }
        priv = supervisor ? 1 : 3;
        reserved = false;
    }

    static int pageFault(int kind) {
        return new int[] {12, 13, 15}[kind];
    }

    static int accessFault(int kind) {
        return new int[] {1, 5, 7}[kind];
    }

    long translated(long v, int kind) {
        int p = kind != 0 && status(17) ? mpp() : priv;
        if (bits(kept.get(0x180), 63, 60) != 8 || p == 3) {
            return v;
        }
        Trap fault = new Trap(pageFault(kind), v);
        if (sx(v, 39) != v) {
            throw fault;
        }
        long t = bits(kept.get(0x180), 43, 0) * 4096;
        for (int i = 2; i >= 0; i--) {
            long at = t + 8 * bits(v, 20 + 9 * i, 12 + 9 * i);
            if (!inRam(at, 8)) {
                throw new Trap(accessFault(kind), v);
            }
            long e = ramRead(at, 8);
            boolean[] bit = new boolean[8];
            for (int k = 0; k < 8; k++) {
                bit[k] = (e >> k & 1) == 1;
            }
            boolean r = bit[1];
            boolean w = bit[2];
            boolean xx = bit[3];
            boolean u = bit[4];
            if (!bit[0] || !r && w || bits(e, 63, 54) != 0) {
                throw fault;
            }
            if (!r && !xx) {
                if (bit[4] || bit[6] || bit[7] || i == 0) {
                    throw fault;
                }
                t = bits(e, 53, 10) * 4096;
                continue;
            }
            boolean bad = p == 0 && !u;
            bad |= p == 1 && u && (kind == 0 || !status(18));
            bad |= kind == 0 && !xx;
            bad |= kind == 1 && (status(19) ? !r && !xx : !r);
            bad |= kind == 2 && !w;
            bad |= i > 0 && bits(e, 9 + 9 * i, 10) != 0;
            bad |= !bit[6];
            bad |= kind == 2 && !bit[7];
            if (bad) {
                throw fault;
            }
            long address = bits(e, 53, 10) * 4096;
            int n = 12 + 9 * i;
            return (address >>> n << n) + bits(v, n - 1, 0);
        }
        throw new IllegalStateException("a walk without an end");
    }

    long loaded(long v, int n) {
        if (unsigned(v).mod(BigInteger.valueOf(n)).signum() != 0) {
            throw new Trap(4, v);
        }
        return read(translated(v, 1), n, 5, v);
    }

    void stored(long v, int n, long what) {
        if (unsigned(v).mod(BigInteger.valueOf(n)).signum() != 0) {
            throw new Trap(6, v);
        }
        write(translated(v, 2), n, what, v);
    }

    int part(long v) {
        long address = translated(v, 0);
        if (!inRam(address, 2)) {
            throw new Trap(1, v);
        }
        return (int) ramRead(address, 2);
    }

    void put(int rd, long v) {
        if (rd != 0) {
            x[rd] = v;
        }
    }

    void instruction() {
        int h = part(pc);
        if ((h & 3) != 3) {
            going = pc + 2;
            new Half(h).run();
            return;
        }
        long w = ((long) part(pc + 2) << 16) | h;
        going = pc + 4;
        wide(w);
    }

    void wide(long w) {
        Trap illegal = new Trap(2, w);
        int rd = (int) bits(w, 11, 7);
        int rs1 = (int) bits(w, 19, 15);
        int rs2 = (int) bits(w, 24, 20);
        int f = (int) bits(w, 14, 12);
        int g = (int) bits(w, 31, 25);
        long a = x[rs1];
        long b = x[rs2];
        long constant = sx(bits(w, 31, 20), 12);
        switch ((int) bits(w, 6, 0)) {
            case 0x37: put(rd, sx(bits(w, 31, 12) << 12, 32)); break;
            case 0x17: put(rd, pc + sx(bits(w, 31, 12) << 12, 32)); break;
            case 0x6f:
                put(rd, pc + 4);
                going = pc + sx(pick(w, "31, 19..12, 20, 30..21") << 1, 21);
                break;
            case 0x67:
                if (f != 0) {
                    throw illegal;
                }
                put(rd, pc + 4);
                going = (a + constant) & ~1L;
                break;
            case 0x63:
                if (branches(f, a, b, illegal)) {
                    going = pc + sx(pick(w, "31, 7, 30..25, 11..8") << 1, 13);
                }
                break;
            case 0x03: {
                if (f == 7) {
                    throw illegal;
                }
                int n = new int[] {1, 2, 4, 8, 1, 2, 4}[f];
                long got = loaded(a + constant, n);
                put(rd, f < 4 ? sx(got, 8 * n) : got);
                break;
            }
            case 0x23:
                if (f > 3) {
                    throw illegal;
                }
                stored(a + sx(pick(w, "31..25, 11..7"), 12), new int[] {1, 2, 4, 8}[f], b);
                break;
            case 0x13: put(rd, constantOp(f, a, constant, (int) bits(w, 31, 26), (int) bits(w, 25, 20), illegal)); break;
            case 0x1b: put(rd, narrowConstantOp(f, a, constant, g, rs2, illegal)); break;
            case 0x33: put(rd, registerOp(f, g, a, b, illegal)); break;
            case 0x3b: put(rd, narrowOp(f, g, a, b, illegal)); break;
            case 0x2f: atomic(f, (int) bits(w, 31, 27), rd, a, b, rs2, illegal); break;
            case 0x0f:
                if (f > 1) {
                    throw illegal;
                }
                break;
            case 0x73: system(w, f, g, rd, rs1, illegal); break;
            default: throw illegal;
        }
    }

    static boolean branches(int f, long a, long b, Trap illegal) {
        switch (f) {
            case 0: return a == b;
            case 1: return a != b;
            case 4: return a < b;
            case 5: return a >= b;
            case 6: return lessUnsigned(a, b);
            case 7: return !lessUnsigned(a, b);
            default: throw illegal;
        }
    }

    static long constantOp(int f, long a, long c, int kind, int by, Trap illegal) {
        switch (f) {
            case 0: return a + c;
            case 2: return a < c ? 1 : 0;
            case 3: return lessUnsigned(a, c) ? 1 : 0;
            case 4: return a ^ c;
            case 6: return a | c;
            case 7: return a & c;
            case 1:
                if (kind != 0) {
                    throw illegal;
                }
                return unsigned(a).shiftLeft(by).longValue();
            default:
                if (kind != 0 && kind != 16) {
                    throw illegal;
                }
                return kind == 0 ? unsigned(a).shiftRight(by).longValue() : BigInteger.valueOf(a).shiftRight(by).longValue();
        }
    }

    static long narrowConstantOp(int f, long a, long c, int g, int by, Trap illegal) {
        if (f == 0) {
            return sx(a + c, 32);
        }
        if (f == 1 && g == 0) {
            return sx(a << by, 32);
        }
        if (f == 5 && g == 0) {
            return sx(bits(a, 31, 0) >>> by, 32);
        }
        if (f == 5 && g == 32) {
            return sx(sx(a, 32) >> by, 32);
        }
        throw illegal;
    }

    static long registerOp(int f, int g, long a, long b, Trap illegal) {
        int by = (int) bits(b, 5, 0);
        if (g == 0) {
            switch (f) {
                case 0: return a + b;
                case 1: return constantOp(1, a, 0, 0, by, illegal);
                case 2: return a < b ? 1 : 0;
                case 3: return lessUnsigned(a, b) ? 1 : 0;
                case 4: return a ^ b;
                case 5: return constantOp(5, a, 0, 0, by, illegal);
                case 6: return a | b;
                default: return a & b;
            }
        }
        if (g == 32 && f == 0) {
            return a - b;
        }
        if (g == 32 && f == 5) {
            return constantOp(5, a, 0, 16, by, illegal);
        }
        if (g == 1) {
            return product(f, BigInteger.valueOf(a), BigInteger.valueOf(b), unsigned(a), unsigned(b), 64);
        }
        throw illegal;
    }

    static long narrowOp(int f, int g, long a, long b, Trap illegal) {
        int by = (int) bits(b, 4, 0);
        if (g == 0 && (f == 0 || f == 1 || f == 5)) {
            return f == 0 ? sx(a + b, 32) : narrowConstantOp(f, a, 0, 0, by, illegal);
        }
        if (g == 32 && f == 0) {
            return sx(a - b, 32);
        }
        if (g == 32 && f == 5) {
            return narrowConstantOp(5, a, 0, 32, by, illegal);
        }
        if (g == 1 && (f == 0 || f >= 4)) {
            BigInteger sa = BigInteger.valueOf(sx(a, 32));
            BigInteger sb = BigInteger.valueOf(sx(b, 32));
            BigInteger ua = BigInteger.valueOf(bits(a, 31, 0));
            BigInteger ub = BigInteger.valueOf(bits(b, 31, 0));
            return sx(product(f, sa, sb, ua, ub, 32), 32);
        }
        throw illegal;
    }

    static long product(int f, BigInteger a, BigInteger b, BigInteger ua, BigInteger ub, int width) {
        BigInteger least = BigInteger.ONE.shiftLeft(width - 1).negate();
        boolean over = a.equals(least) && b.equals(BigInteger.ONE.negate());
        switch (f) {
            case 0: return a.multiply(b).longValue();
            case 1: return a.multiply(b).shiftRight(64).longValue();
            case 2: return a.multiply(ub).shiftRight(64).longValue();
            case 3: return ua.multiply(ub).shiftRight(64).longValue();
            case 4: return b.signum() == 0 ? -1 : over ? a.longValue() : a.divide(b).longValue();
            case 5: return ub.signum() == 0 ? -1 : ua.divide(ub).longValue();
            case 6: return b.signum() == 0 ? a.longValue() : over ? 0 : a.remainder(b).longValue();
            default: return ub.signum() == 0 ? ua.longValue() : ua.remainder(ub).longValue();
        }
    }

    void atomic(int f, int what, int rd, long a, long b, int rs2, Trap illegal) {
        if (f != 2 && f != 3) {
            throw illegal;
        }
        int n = f == 2 ? 4 : 8;
        if (what == 2 && rs2 != 0) {
            throw illegal;
        }
        if (!List.of(0, 1, 2, 3, 4, 8, 12, 16, 20, 24).contains(what) && what != 28) {
            throw illegal;
        }
        int kind = what == 2 ? 1 : 2;
        if (bits(a, n == 4 ? 1 : 2, 0) != 0) {
            throw new Trap(kind == 1 ? 4 : 6, a);
        }
        long address = translated(a, kind);
        if (!inRam(address, n)) {
            throw new Trap(accessFault(kind), a);
        }
        long read = sx(ramRead(address, n), 8 * n);
        if (what == 2) {
            put(rd, read);
            reserved = true;
            reservedAt = address;
            reservedSize = n;
            return;
        }
        if (what == 3) {
            boolean good = reserved && reservedAt == address && reservedSize == n;
            if (good) {
                write(address, n, b, a);
            }
            put(rd, good ? 0 : 1);
            reserved = false;
            return;
        }
        put(rd, read);
        write(address, n, changed(what, read, sx(b, 8 * n)), a);
    }

    static long changed(int what, long read, long b) {
        switch (what) {
            case 1: return b;
            case 0: return read + b;
            case 4: return read ^ b;
            case 12: return read & b;
            case 8: return read | b;
            case 16: return Math.min(read, b);
            case 20: return Math.max(read, b);
            case 24: return lessUnsigned(read, b) ? read : b;
            default: return lessUnsigned(read, b) ? b : read;
        }
    }

    void system(long w, int f, int g, int rd, int rs1, Trap illegal) {
        if (f == 4) {
            throw illegal;
        }
        if (f != 0) {
            controlOp((int) bits(w, 31, 20), f, rd, rs1, illegal);
            return;
        }
        if (w == 0x73) {
            throw new Trap(priv == 0 ? 8 : priv == 1 ? 9 : 11, 0);
        } else if (w == 0x100073) {
            throw new Trap(3, pc);
        } else if (w == 0x30200073 && priv == 3) {
            going = kept.get(0x341);
            int back = mpp();
            priv = back;
            status(3, status(7));
            status(7, true);
            mpp(0);
            if (back != 3) {
                status(17, false);
            }
            reserved = false;
        } else if (w == 0x10200073 && (priv == 3 || priv == 1 && !status(22))) {
            going = kept.get(0x141);
            priv = status(8) ? 1 : 0;
            status(1, status(5));
            status(5, true);
            status(8, false);
            status(17, false);
            reserved = false;
        } else if (w == 0x10500073) {
            if (priv == 0 || priv == 1 && status(21)) {
                throw illegal;
            }
        } else if (g == 9 && rd == 0) {
            if (priv == 0 || priv == 1 && status(20)) {
                throw illegal;
            }
        } else {
            throw illegal;
        }
    }

    void controlOp(int number, int f, int rd, int rs1, Trap illegal) {
        boolean writes = f == 1 || f == 5 || rs1 != 0;
        boolean bad = !told(number) || bits(number, 9, 8) > priv || writes && bits(number, 11, 10) == 3;
        bad |= number == 0x180 && priv == 1 && status(20);
        if (number >= 0xc00 && number <= 0xc02) {
            boolean byMachine = (kept.get(0x306) >> (number & 3) & 1) == 1;
            boolean bySupervisor = (kept.get(0x106) >> (number & 3) & 1) == 1;
            bad |= priv == 1 && !byMachine;
            bad |= priv == 0 && !(byMachine && bySupervisor);
        }
        if (bad) {
            throw illegal;
        }
        long a = f >= 5 ? rs1 : x[rs1];
        long old = readControl(number);
        if (writes) {
            writeControl(number, f % 4 == 1 ? a : f % 4 == 2 ? old | a : old & ~a);
        }
        put(rd, old);
    }

    /** Instructions of 16 bits, done directly and not by way of those of 32. */
    final class Half {
        final int h;
        final int r;
        final int s;
        final int rr;
        final int ss;
        final long i6;
        final int u6;
        final Trap illegal;

        Half(int h) {
            this.h = h;
            r = (int) bits(h, 11, 7);
            s = (int) bits(h, 6, 2);
            rr = 8 + (int) bits(h, 9, 7);
            ss = 8 + (int) bits(h, 4, 2);
            u6 = (int) pick(h, "12, 6..2");
            i6 = sx(u6, 6);
            illegal = new Trap(2, h);
        }

        void require(boolean good) {
            if (!good) {
                throw illegal;
            }
        }

        void run() {
            switch ((int) (bits(h, 1, 0) * 10 + bits(h, 15, 13))) {
                case 0: {
                    long up = pick(h, "10..7, 12..11, 5, 6") * 4;
                    require(up != 0);
                    put(ss, x[2] + up);
                    break;
                }
                case 2: put(ss, sx(loaded(x[rr] + pick(h, "5, 12..10, 6") * 4, 4), 32)); break;
                case 3: put(ss, loaded(x[rr] + pick(h, "6..5, 12..10") * 8, 8)); break;
                case 6: stored(x[rr] + pick(h, "5, 12..10, 6") * 4, 4, x[ss]); break;
                case 7: stored(x[rr] + pick(h, "6..5, 12..10") * 8, 8, x[ss]); break;
                case 10: put(r, x[r] + i6); break;
                case 11:
                    require(r != 0);
                    put(r, sx(x[r] + i6, 32));
                    break;
                case 12: put(r, i6); break;
                case 13:
                    if (r == 2) {
                        long by = sx(pick(h, "12, 4..3, 5, 2, 6"), 6) * 16;
                        require(by != 0);
                        put(2, x[2] + by);
                    } else {
                        require(i6 != 0);
                        put(r, i6 * 4096);
                    }
                    break;
                case 14: put(rr, computed()); break;
                case 15: going = pc + sx(pick(h, "12, 8, 10..9, 6, 7, 2, 11, 5..3"), 11) * 2; break;
                case 16: case 17:
                    if (x[rr] == 0 == (bits(h, 15, 13) == 6)) {
                        going = pc + sx(pick(h, "12, 6..5, 2, 11..10, 4..3"), 8) * 2;
                    }
                    break;
                case 20: put(r, unsigned(x[r]).shiftLeft(u6).longValue()); break;
                case 22:
                    require(r != 0);
                    put(r, sx(loaded(x[2] + pick(h, "3..2, 12, 6..4") * 4, 4), 32));
                    break;
                case 23:
                    require(r != 0);
                    put(r, loaded(x[2] + pick(h, "4..2, 12, 6..5") * 8, 8));
                    break;
                case 24: movesAndJumps(); break;
                case 26: stored(x[2] + pick(h, "8..7, 12..9") * 4, 4, x[s]); break;
                case 27: stored(x[2] + pick(h, "9..7, 12..10") * 8, 8, x[s]); break;
                default: throw illegal;
            }
        }

        long computed() {
            switch ((int) bits(h, 11, 10)) {
                case 0: return unsigned(x[rr]).shiftRight(u6).longValue();
                case 1: return BigInteger.valueOf(x[rr]).shiftRight(u6).longValue();
                case 2: return x[rr] & i6;
                default: break;
            }
            int which = (int) bits(h, 6, 5);
            if (bits(h, 12, 12) == 0) {
                return new long[] {x[rr] - x[ss], x[rr] ^ x[ss], x[rr] | x[ss], x[rr] & x[ss]}[which];
            }
            require(which < 2);
            return which == 0 ? sx(x[rr] - x[ss], 32) : sx(x[rr] + x[ss], 32);
        }

        void movesAndJumps() {
            if (bits(h, 12, 12) == 0) {
                if (s == 0) {
                    require(r != 0);
                    going = x[r] & ~1L;
                } else {
                    put(r, x[s]);
                }
            } else if (r == 0 && s == 0) {
                throw new Trap(3, pc);
            } else if (s == 0) {
                long was = x[r];
                put(1, pc + 2);
                going = was & ~1L;
            } else {
                put(r, x[r] + x[s]);
            }
        }
    }

    // ---- the tape

    BigInteger onTape(int at, int n) {
        BigInteger v = BigInteger.ZERO;
        for (int k = n - 1; k >= 0; k--) {
            v = v.shiftLeft(8).or(BigInteger.valueOf(tape.get(at + k)));
        }
        return v;
    }

    static boolean over(BigInteger begin, BigInteger length, long limit) {
        return begin.add(length).compareTo(BigInteger.valueOf(limit)) > 0;
    }

    int load() {
        if (tape.size() < 64) {
            return 1;
        }
        int[] mark = {0x7f, 0x45, 0x4c, 0x46, 2, 1, 1};
        for (int k = 0; k < 7; k++) {
            if (tape.get(k) != mark[k]) {
                return 2;
            }
        }
        if (onTape(16, 2).intValue() != 2 || onTape(18, 2).intValue() != 243 || onTape(20, 4).longValue() != 1) {
            return 3;
        }
        int rows = onTape(56, 2).intValue();
        if (onTape(54, 2).intValue() != 56 || rows < 1 || rows > 16) {
            return 4;
        }
        if (over(onTape(32, 8), BigInteger.valueOf(56L * rows), tape.size())) {
            return 5;
        }
        int begin = onTape(32, 8).intValue();
        for (int k = 0; k < rows; k++) {
            int at = begin + 56 * k;
            if (onTape(at, 4).longValue() != 1) {
                continue;
            }
            BigInteger inTape = onTape(at + 32, 8);
            BigInteger inMemory = onTape(at + 40, 8);
            BigInteger address = onTape(at + 24, 8);
            if (over(onTape(at + 8, 8), inTape, tape.size())) {
                return 6;
            }
            if (address.compareTo(BigInteger.valueOf(BASE)) < 0 || over(address, inMemory, BASE + ram.length)) {
                return 7;
            }
            if (inTape.compareTo(inMemory) > 0) {
                return 8;
            }
        }
        long entry = onTape(24, 8).longValue();
        if (!inRam(entry, 1) || (entry & 1) == 1) {
            return 9;
        }
        for (int k = 0; k < rows; k++) {
            int at = begin + 56 * k;
            if (onTape(at, 4).longValue() == 1) {
                bring(at);
            }
        }
        pc = entry;
        priv = 3;
        reserved = false;
        return 0;
    }

    void bring(int row) {
        int from = onTape(row + 8, 8).intValue();
        int to = (int) (onTape(row + 24, 8).longValue() - BASE);
        int inTape = onTape(row + 32, 8).intValue();
        int inMemory = onTape(row + 40, 8).intValue();
        for (int k = 0; k < inMemory; k++) {
            ram[to + k] = k < inTape ? (byte) (int) tape.get(from + k) : 0;
        }
    }

    int type() {
        input.addAll(tape);
        tape.clear();
        settle();
        return input.size();
    }

    long translate(long v, int kind) {
        try {
            return translated(v, kind);
        } catch (Trap t) {
            return -1 - t.cause;
        }
    }

    int look(int what) {
        switch (what) {
            case 0: return priv;
            case 1: return input.size();
            case 2: return output.size();
            case 3: return traps;
            case 4: return interrupts;
            case 5: return latest;
            case 6: return tape.size();
            case 7: return reserved ? reservedSize : 0;
            case 8: return pages;
            case 9: return set(pending);
            default: return set(claimed);
        }
    }
}
