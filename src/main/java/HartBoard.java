import java.util.NoSuchElementException;

/** A board with one 64-bit processor, its memory and its devices; ../shared/DOC.md says what it does. */
public final class HartBoard {
    private static final int USER = 0;
    private static final int SUPERVISOR = 1;
    private static final int MACHINE = 3;

    private static final int FETCH = 0;
    private static final int LOAD = 1;
    private static final int STORE = 2;

    /** No cause, no interrupt, no place: none of these is ever negative. */
    private static final int NONE = -1;

    private static final long RAM_BASE = 0x80000000L;
    private static final int PAGE = 4096;
    private static final int LEAST_PAGES = 16;
    private static final int MOST_PAGES = 64;
    private static final int MOST_STEPS = 4096;
    private static final int MOST_TAPE = 65536;
    private static final int MOST_INPUT = 65536;
    private static final int MOST_OUTPUT = 4096;
    private static final int PC = 32;

    private static final int HEADER = 64;
    private static final int ROW = 56;
    private static final int MOST_ROWS = 16;
    /** The first seven bytes of an image, the first one lowest. */
    private static final long IMAGE_MARK = 0x010102464c457fL;

    private final Bytes tape;
    private final Bus bus;
    private final Controls controls;
    private final Hart hart;

    public HartBoard(int pages) {
        boolean fitting = pages >= LEAST_PAGES && pages <= MOST_PAGES;
        tape = new Bytes(MOST_TAPE);
        bus = new Bus(new Ram(fitting ? pages : LEAST_PAGES));
        controls = new Controls(bus);
        hart = new Hart(bus, controls);
    }

    public int feed(int n, long v) throws IllegalArgumentException, IllegalStateException {
        if (n < 1 || n > 8) {
            throw new IllegalArgumentException("n is not 1 .. 8");
        }
        if (tape.size() + n > MOST_TAPE) {
            throw new IllegalStateException("the tape is full");
        }
        for (int k = 0; k < n; k++) {
            tape.append((int) (v >>> (8 * k)));
        }
        return tape.size();
    }

    public int wipe() {
        int had = tape.size();
        tape.clear();
        return had;
    }

    public int load() {
        int error = imageError();
        if (error == 0) {
            bringImage();
        }
        return error;
    }

    public int type() throws IllegalStateException {
        Bytes input = bus.line.input;
        if (input.size() + tape.size() > MOST_INPUT) {
            throw new IllegalStateException("the input is full");
        }
        int fresh = tape.size();
        for (int k = 0; k < fresh; k++) {
            input.append(tape.byteAt(k));
        }
        tape.clear();
        bus.settle();
        return input.size();
    }

    public void poke(long address, int n, long v) throws IllegalArgumentException, NoSuchElementException {
        if (n < 1 || n > 8) {
            throw new IllegalArgumentException("n is not 1 .. 8");
        }
        int at = bus.ram.place(address, n);
        if (at == NONE) {
            throw new NoSuchElementException("not in RAM");
        }
        for (int k = 0; k < n; k++) {
            bus.ram.write(at + k, 1, v >>> (8 * k));
        }
    }

    public long peek(long address) throws NoSuchElementException {
        int at = bus.ram.place(address, 8);
        if (at == NONE) {
            throw new NoSuchElementException("not in RAM");
        }
        long v = 0;
        for (int k = 7; k >= 0; k--) {
            v = (v << 8) | bus.ram.read(at + k, 1);
        }
        return v;
    }

    public void set(int register, long v) throws IllegalArgumentException {
        if (register < 0 || register > PC) {
            throw new IllegalArgumentException("no such register");
        }
        if (register == PC) {
            hart.pc = v & ~1L;
        } else if (register != 0) {
            hart.registers[register] = v;
        }
    }

    public long get(int register) throws IllegalArgumentException {
        if (register < 0 || register > PC) {
            throw new IllegalArgumentException("no such register");
        }
        return register == PC ? hart.pc : hart.registers[register];
    }

    public void lower(int p) throws IllegalArgumentException {
        if (p != USER && p != SUPERVISOR && p != MACHINE) {
            throw new IllegalArgumentException("no such privilege");
        }
        hart.privilege = p;
    }

    public long control(int number) throws IllegalArgumentException {
        if (!Controls.knows(number)) {
            throw new IllegalArgumentException("no such control register");
        }
        return controls.read(number);
    }

    public void order(int number, long v) throws IllegalArgumentException {
        if (!Controls.knows(number)) {
            throw new IllegalArgumentException("no such control register");
        }
        controls.write(number, v);
    }

    public void raise(int source, boolean high) throws IllegalArgumentException {
        if (source < 2 || source > 7) {
            throw new IllegalArgumentException("no such source");
        }
        bus.controller.drive(source, high);
        bus.settle();
    }

    public int step(int n) throws IllegalArgumentException {
        if (n < 0 || n > MOST_STEPS) {
            throw new IllegalArgumentException("n is not 0 .. 4096");
        }
        int done = 0;
        for (int k = 0; k < n; k++) {
            if (hart.advance()) {
                done++;
            }
        }
        return done;
    }

    public long translate(long address, int kind) throws IllegalArgumentException {
        if (kind < FETCH || kind > STORE) {
            throw new IllegalArgumentException("no such kind");
        }
        int privilege = hart.privilegeFor(kind);
        return controls.pages(privilege) ? Pager.physical(controls, bus.ram, address, kind, privilege) : address;
    }

    public int look(int what) throws IllegalArgumentException {
        switch (what) {
            case 0: return hart.privilege;
            case 1: return bus.line.input.size();
            case 2: return bus.line.output.size();
            case 3: return hart.traps;
            case 4: return hart.interrupts;
            case 5: return hart.latest;
            case 6: return tape.size();
            case 7: return bus.reservedSize;
            case 8: return bus.ram.size / PAGE;
            case 9: return bus.controller.pending;
            case 10: return bus.controller.claimed;
            default: throw new IllegalArgumentException("nothing to look at");
        }
    }

    public int out(int k) throws NoSuchElementException {
        Bytes output = bus.line.output;
        if (k < 0 || k >= output.size()) {
            throw new NoSuchElementException("no such byte");
        }
        return output.byteAt(k);
    }

    private int imageError() {
        if (tape.size() < HEADER) {
            return 1;
        }
        if (tape.number(0, 7) != IMAGE_MARK) {
            return 2;
        }
        if (tape.number(16, 2) != 2 || tape.number(18, 2) != 243 || tape.number(20, 4) != 1) {
            return 3;
        }
        int rows = imageRows();
        if (tape.number(54, 2) != ROW || rows < 1 || rows > MOST_ROWS) {
            return 4;
        }
        long begin = tape.number(32, 8);
        if (!lies(begin, (long) ROW * rows, tape.size())) {
            return 5;
        }
        for (int k = 0; k < rows && k < MOST_ROWS; k++) {
            int error = rowError((int) begin + ROW * k);
            if (error != 0) {
                return error;
            }
        }
        long entry = tape.number(24, 8);
        return (entry & 1) != 0 || bus.ram.place(entry, 1) == NONE ? 9 : 0;
    }

    private int rowError(int row) {
        if (tape.number(row, 4) != 1) {
            return 0;
        }
        long inTape = tape.number(row + 32, 8);
        long inMemory = tape.number(row + 40, 8);
        if (!lies(tape.number(row + 8, 8), inTape, tape.size())) {
            return 6;
        }
        if (!lies(tape.number(row + 24, 8) - RAM_BASE, inMemory, bus.ram.size)) {
            return 7;
        }
        // Both sizes are known to be small by now, so the signed comparison is the unsigned one.
        return inTape > inMemory ? 8 : 0;
    }

    private void bringImage() {
        int begin = (int) tape.number(32, 8);
        int rows = imageRows();
        for (int k = 0; k < rows && k < MOST_ROWS; k++) {
            if (tape.number(begin + ROW * k, 4) == 1) {
                bringRow(begin + ROW * k);
            }
        }
        hart.pc = tape.number(24, 8);
        hart.privilege = MACHINE;
        bus.endReservation();
    }

    private void bringRow(int row) {
        int from = (int) tape.number(row + 8, 8);
        int to = (int) (tape.number(row + 24, 8) - RAM_BASE);
        int inTape = (int) tape.number(row + 32, 8);
        int inMemory = (int) tape.number(row + 40, 8);
        for (int k = 0; k < inTape; k++) {
            bus.ram.write(to + k, 1, tape.byteAt(from + k));
        }
        bus.ram.zero(to + inTape, to + inMemory);
    }

    private int imageRows() {
        return (int) tape.number(56, 2);
    }

    /** Whether the unsigned range lies within 0 .. size; a range of none may stand at the very end. */
    private static boolean lies(long begin, long length, int size) {
        return begin >= 0 && begin <= size && length >= 0 && length <= size - begin;
    }

    /** A row of bytes that goes on behind and is used up in front; it grows, so that a short one stays small. */
    private static final class Bytes {
        private static final int FIRST_LENGTH = 64;

        private final int limit;
        /** Its length is a power of two: places wrap round by a mask. */
        private byte[] row = new byte[FIRST_LENGTH];
        private int first;
        private int count;

        Bytes(int limit) {
            this.limit = limit;
        }

        int size() {
            return count;
        }

        void clear() {
            first = 0;
            count = 0;
        }

        /** What is beyond the limit is lost. */
        void append(int b) {
            if (count >= limit) {
                return;
            }
            if (count == row.length) {
                byte[] longer = new byte[row.length * 2];
                for (int k = 0; k < row.length; k++) {
                    longer[k] = row[(first + k) & (row.length - 1)];
                }
                row = longer;
                first = 0;
            }
            row[(first + count) & (row.length - 1)] = (byte) b;
            count++;
        }

        int byteAt(int k) {
            return k < 0 || k >= count ? 0 : row[(first + k) & (row.length - 1)] & 255;
        }

        int removeFirst() {
            if (count == 0) {
                return 0;
            }
            int b = row[first & (row.length - 1)] & 255;
            first = (first + 1) & (row.length - 1);
            count--;
            return b;
        }

        long number(int at, int n) {
            long v = 0;
            for (int k = n - 1; k >= 0; k--) {
                v = (v << 8) | byteAt(at + k);
            }
            return v;
        }
    }

    /** RAM in words of eight bytes: every access of an instruction is aligned, so it lies within one of them. */
    private static final class Ram {
        private final int size;
        private final long[] words;

        Ram(int pages) {
            size = pages * PAGE;
            words = new long[pages * (PAGE / 8)];
        }

        /** Where n bytes at a physical address lie from the begin of RAM; NONE if not all of them do. */
        int place(long address, int n) {
            long at = address - RAM_BASE;
            return at >= 0 && at <= size - n ? (int) at : NONE;
        }

        /** n bytes (1, 2, 4, 8) that lie within one word, with 0s above. */
        long read(int at, int n) {
            if (at < 0 || at >= size) {
                return 0;
            }
            int above = 64 - 8 * n;
            return words[at >> 3] >>> (8 * (at & 7)) << above >>> above;
        }

        void write(int at, int n, long v) {
            if (at < 0 || at >= size) {
                return;
            }
            int shift = 8 * (at & 7);
            long mask = -1L >>> (64 - 8 * n) << shift;
            words[at >> 3] = (words[at >> 3] & ~mask) | ((v << shift) & mask);
        }

        /** By words where it can: a whole RAM of zeros would be long by bytes. */
        void zero(int from, int to) {
            int at = from;
            while (at < to) {
                int n = (at & 7) == 0 && to - at >= 8 ? 8 : 1;
                write(at, n, 0);
                at += n;
            }
        }
    }

    /** The controller of interrupts. Sets of sources are bits, source s being bit s. */
    private static final class Controller {
        private static final int PENDING = 0x1000;
        private static final int ENABLE_0 = 0x2000;
        private static final int ENABLE_1 = 0x2080;
        private static final int THRESHOLD_0 = 0x200000;
        private static final int THRESHOLD_1 = 0x201000;
        private static final int CLAIM_0 = 0x200004;
        private static final int CLAIM_1 = 0x201004;
        private static final int SOURCES = 7;
        private static final int LINE_SOURCE = 1 << 1;

        private final int[] priority = new int[SOURCES + 1];
        private final int[] enabled = new int[2];
        private final int[] threshold = new int[2];
        private int high;
        private int pending;
        private int claimed;

        static boolean has(long at) {
            return at == PENDING || at == ENABLE_0 || at == ENABLE_1
                || at == THRESHOLD_0 || at == THRESHOLD_1 || at == CLAIM_0 || at == CLAIM_1
                || (at >= 4 && at <= 4 * SOURCES && (at & 3) == 0);
        }

        long read(int at) {
            switch (at) {
                case PENDING: return pending;
                case ENABLE_0: return enabled[0];
                case ENABLE_1: return enabled[1];
                case THRESHOLD_0: return threshold[0];
                case THRESHOLD_1: return threshold[1];
                case CLAIM_0: return claim(enabled[0]);
                case CLAIM_1: return claim(enabled[1]);
                default: return priority[(at >> 2) & 7];
            }
        }

        void write(int at, int v) {
            switch (at) {
                case PENDING: break;
                case ENABLE_0: enabled[0] = v & 0xfe; break;
                case ENABLE_1: enabled[1] = v & 0xfe; break;
                case THRESHOLD_0: threshold[0] = v & 7; break;
                case THRESHOLD_1: threshold[1] = v & 7; break;
                case CLAIM_0: complete(enabled[0], v); break;
                case CLAIM_1: complete(enabled[1], v); break;
                default: priority[(at >> 2) & 7] = v & 7; break;
            }
        }

        private int claim(int open) {
            int best = 0;
            int most = 0;
            for (int s = 1; s <= SOURCES; s++) {
                if (((pending & open) >> s & 1) != 0 && priority[s] > most) {
                    best = s;
                    most = priority[s];
                }
            }
            if (best != 0) {
                pending &= ~(1 << best);
                claimed |= 1 << best;
            }
            return best;
        }

        private void complete(int open, int source) {
            if (source >= 1 && source <= SOURCES) {
                claimed &= ~(open & (1 << source));
            }
        }

        boolean calls(int context) {
            int c = context & 1;
            int open = pending & enabled[c];
            if (open == 0) {
                return false;
            }
            for (int s = 1; s <= SOURCES; s++) {
                if ((open >> s & 1) != 0 && priority[s] > threshold[c]) {
                    return true;
                }
            }
            return false;
        }

        void drive(int source, boolean up) {
            int bit = 1 << (source & 7);
            high = up ? high | bit : high & ~bit;
        }

        void settle(boolean lineHigh) {
            pending |= (lineHigh ? high | LINE_SOURCE : high) & ~claimed;
        }
    }

    /** The line in and out. */
    private static final class Line {
        private static final int DATA = 0;
        private static final int ENABLE = 1;
        private static final int STATUS = 5;
        private static final int READY = 96;

        private final Bytes input = new Bytes(MOST_INPUT);
        private final Bytes output = new Bytes(MOST_OUTPUT);
        private int enable;

        long read(int at) {
            switch (at) {
                case DATA: return input.removeFirst();
                case ENABLE: return enable;
                case STATUS: return input.size() > 0 ? READY + 1 : READY;
                default: return 0;
            }
        }

        void write(int at, int v) {
            if (at == DATA) {
                output.append(v);
            } else if (at == ENABLE) {
                enable = v & 255;
            }
        }

        boolean high() {
            return (enable & 1) != 0 && input.size() > 0;
        }
    }

    /** Physical memory: RAM, the timer, the other devices, and the reservation, which lies in RAM. */
    private static final class Bus {
        private static final long SOFT_AT = 0x2000000L;
        private static final long COMPARE_AT = 0x2004000L;
        private static final long TIME_AT = 0x200bff8L;
        private static final long CONTROLLER_AT = 0xc000000L;
        private static final long LINE_AT = 0x10000000L;

        private final Ram ram;
        private final Controller controller = new Controller();
        private final Line line = new Line();
        private long soft;
        private long compare = -1L;
        private long time;
        /** Whether the latest access was none of those that are told. */
        private boolean failed;
        private long reservedAt;
        private int reservedSize;

        Bus(Ram ram) {
            this.ram = ram;
        }

        /** n bytes (1, 2, 4, 8) at a multiple of n, with 0s above. */
        long read(long address, int n) {
            failed = false;
            int at = ram.place(address, n);
            if (at != NONE) {
                return ram.read(at, n);
            }
            if (n == 1 && (address & ~7L) == LINE_AT) {
                return line.read((int) address & 7);
            }
            if (n == 4 && Controller.has(address - CONTROLLER_AT)) {
                return controller.read((int) (address - CONTROLLER_AT));
            }
            if (n == 4 && address == SOFT_AT) {
                return soft;
            }
            if (n >= 4 && (address & ~7L) == COMPARE_AT) {
                return part(compare, address, n);
            }
            if (n >= 4 && (address & ~7L) == TIME_AT) {
                return part(time, address, n);
            }
            failed = true;
            return 0;
        }

        /** The lowest n bytes (1, 2, 4, 8) of v, at a multiple of n. */
        void write(long address, int n, long v) {
            failed = false;
            int at = ram.place(address, n);
            if (at != NONE) {
                ram.write(at, n, v);
                if (address < reservedAt + reservedSize && reservedAt < address + n) {
                    endReservation();
                }
            } else if (n == 1 && (address & ~7L) == LINE_AT) {
                line.write((int) address & 7, (int) v);
            } else if (n == 4 && Controller.has(address - CONTROLLER_AT)) {
                controller.write((int) (address - CONTROLLER_AT), (int) v);
            } else if (n == 4 && address == SOFT_AT) {
                soft = v & 1;
            } else if (n >= 4 && (address & ~7L) == COMPARE_AT) {
                compare = withPart(compare, address, n, v);
            } else if (n >= 4 && (address & ~7L) == TIME_AT) {
                time = withPart(time, address, n, v);
            } else {
                failed = true;
            }
        }

        private static long part(long whole, long address, int n) {
            return n == 8 ? whole : (whole >>> (8 * ((int) address & 4))) & 0xffffffffL;
        }

        private static long withPart(long whole, long address, int n, long v) {
            if (n == 8) {
                return v;
            }
            int shift = 8 * ((int) address & 4);
            long mask = 0xffffffffL << shift;
            return (whole & ~mask) | ((v << shift) & mask);
        }

        void reserve(long address, int n) {
            reservedAt = address;
            reservedSize = n;
        }

        boolean reserves(long address, int n) {
            return reservedSize == n && reservedAt == address;
        }

        void endReservation() {
            reservedAt = 0;
            reservedSize = 0;
        }

        void settle() {
            controller.settle(line.high());
        }
    }

    /** The control registers that machine and supervisor have alike, by the last two digits of their numbers. */
    private static final class Level {
        private static final int TVEC = 0x05;
        private static final int COUNTERS = 0x06;
        private static final int SCRATCH = 0x40;
        private static final int EPC = 0x41;
        private static final int CAUSE = 0x42;
        private static final int TVAL = 0x43;

        private long tvec;
        private long counters;
        private long scratch;
        private long epc;
        private long cause;
        private long tval;

        long read(int register) {
            switch (register) {
                case TVEC: return tvec;
                case COUNTERS: return counters;
                case SCRATCH: return scratch;
                case EPC: return epc;
                case CAUSE: return cause;
                case TVAL: return tval;
                default: return 0;
            }
        }

        void write(int register, long v) {
            switch (register) {
                case TVEC: tvec = v & ~2L; break;
                case COUNTERS: counters = v & 7; break;
                case SCRATCH: scratch = v; break;
                case EPC: epc = v & ~1L; break;
                case CAUSE: cause = v; break;
                case TVAL: tval = v; break;
                default: break;
            }
        }
    }

    /** The control registers. */
    private static final class Controls {
        private static final int SSTATUS = 0x100;
        private static final int SIE = 0x104;
        private static final int SIP = 0x144;
        private static final int SATP = 0x180;
        private static final int MSTATUS = 0x300;
        private static final int MISA = 0x301;
        private static final int MEDELEG = 0x302;
        private static final int MIDELEG = 0x303;
        private static final int MIE = 0x304;
        private static final int MIP = 0x344;
        private static final int CYCLE = 0xb00;
        private static final int RETIRED = 0xb02;
        private static final int USER_CYCLE = 0xc00;
        private static final int USER_TIME = 0xc01;
        private static final int USER_RETIRED = 0xc02;

        private static final long BIT_SIE = 1L << 1;
        private static final long BIT_MIE = 1L << 3;
        private static final long BIT_SPIE = 1L << 5;
        private static final long BIT_MPIE = 1L << 7;
        private static final long BIT_SPP = 1L << 8;
        private static final int MPP_SHIFT = 11;
        private static final long BITS_MPP = 3L << MPP_SHIFT;
        private static final long BIT_MPRV = 1L << 17;
        private static final long BIT_SUM = 1L << 18;
        private static final long BIT_MXR = 1L << 19;
        private static final long BIT_TVM = 1L << 20;
        private static final long BIT_TW = 1L << 21;
        private static final long BIT_TSR = 1L << 22;
        private static final long MACHINE_STATUS = 0x7e19aaL;
        private static final long MACHINE_WIDTHS = 10L << 32;
        private static final long SUPERVISOR_STATUS = 0xc0122L;
        private static final long SUPERVISOR_WIDTH = 2L << 32;
        private static final long MISA_VALUE = 0x8000000000141105L;

        private final Bus bus;
        private final Level machine = new Level();
        private final Level supervisor = new Level();
        private long status;
        private long medeleg;
        private long mideleg;
        private long mie;
        /** Of MIP what is kept; the other bits come from the devices. */
        private long mip;
        private long satp;
        private long cycle;
        private long retired;

        Controls(Bus bus) {
            this.bus = bus;
        }

        static boolean knows(int number) {
            return number == SSTATUS || (number >= SIE && number <= 0x106)
                || (number >= 0x140 && number <= SIP) || number == SATP
                || (number >= MSTATUS && number <= 0x306) || (number >= 0x340 && number <= MIP)
                || number == CYCLE || number == RETIRED
                || (number >= USER_CYCLE && number <= USER_RETIRED)
                || (number >= 0xf11 && number <= 0xf14);
        }

        long read(int number) {
            switch (number) {
                case SSTATUS: return (status & SUPERVISOR_STATUS) | SUPERVISOR_WIDTH;
                case SIE: return mie & mideleg;
                case SIP: return pendingInterrupts() & mideleg;
                case SATP: return satp;
                case MSTATUS: return status | MACHINE_WIDTHS;
                case MISA: return MISA_VALUE;
                case MEDELEG: return medeleg;
                case MIDELEG: return mideleg;
                case MIE: return mie;
                case MIP: return pendingInterrupts();
                case CYCLE:
                case USER_CYCLE: return cycle;
                case RETIRED:
                case USER_RETIRED: return retired;
                case USER_TIME: return bus.time;
                default: return readOfLevel(number);
            }
        }

        private long readOfLevel(int number) {
            switch (number >> 8) {
                case 1: return supervisor.read(number & 0xff);
                case 3: return machine.read(number & 0xff);
                default: return 0;
            }
        }

        void write(int number, long v) {
            switch (number) {
                case SSTATUS: status = mixed(status, v, SUPERVISOR_STATUS); break;
                case SIE: mie = mixed(mie, v, mideleg); break;
                case SIP: mip = mixed(mip, v, mideleg & 2); break;
                case SATP: writeSatp(v); break;
                case MSTATUS: writeStatus(v); break;
                case MEDELEG: medeleg = v & 0xb3ff; break;
                case MIDELEG: mideleg = v & 0x222; break;
                case MIE: mie = v & 0xaaa; break;
                case MIP: mip = v & 0x222; break;
                case CYCLE: cycle = v; break;
                case RETIRED: retired = v; break;
                default: writeOfLevel(number, v); break;
            }
        }

        private void writeOfLevel(int number, long v) {
            if (number >> 8 == 1) {
                supervisor.write(number & 0xff, v);
            } else if (number >> 8 == 3) {
                machine.write(number & 0xff, v);
            }
        }

        private void writeStatus(long v) {
            boolean noPrivilege = (v & BITS_MPP) >> MPP_SHIFT == 2;
            status = mixed(status, v, noPrivilege ? MACHINE_STATUS & ~BITS_MPP : MACHINE_STATUS);
        }

        private void writeSatp(long v) {
            long mode = v >>> 60;
            if (mode == 0 || mode == 8) {
                satp = v;
            }
        }

        private static long mixed(long old, long v, long mask) {
            return (old & ~mask) | (v & mask);
        }

        long pendingInterrupts() {
            return mip | (bus.soft << 3) | (Arithmetic.below(bus.time, bus.compare) ? 0 : 1 << 7)
                | (bus.controller.calls(0) ? 1 << 11 : 0) | (bus.controller.calls(1) ? 1 << 9 : 0);
        }

        boolean has(long bit) {
            return (status & bit) != 0;
        }

        private void put(long bit, boolean on) {
            status = on ? status | bit : status & ~bit;
        }

        /** Whether a control instruction at this privilege is legal. */
        boolean allows(int number, int privilege, boolean writes) {
            if (!knows(number) || ((number >> 8) & 3) > privilege || (writes && number >> 10 == 3)) {
                return false;
            }
            if (number == SATP) {
                return privilege != SUPERVISOR || !has(BIT_TVM);
            }
            if (number >= USER_CYCLE && number <= USER_RETIRED) {
                return counterIsOpen(1L << (number - USER_CYCLE), privilege);
            }
            return true;
        }

        private boolean counterIsOpen(long bit, int privilege) {
            if (privilege == MACHINE) {
                return true;
            }
            boolean byMachine = (machine.counters & bit) != 0;
            return byMachine && (privilege == SUPERVISOR || (supervisor.counters & bit) != 0);
        }

        int previousPrivilege() {
            return (int) ((status & BITS_MPP) >> MPP_SHIFT);
        }

        boolean pages(int privilege) {
            return privilege < MACHINE && satp >>> 60 == 8;
        }

        void enterMachine(int privilege) {
            put(BIT_MPIE, has(BIT_MIE));
            put(BIT_MIE, false);
            status = mixed(status, (long) privilege << MPP_SHIFT, BITS_MPP);
        }

        void enterSupervisor(int privilege) {
            put(BIT_SPIE, has(BIT_SIE));
            put(BIT_SIE, false);
            put(BIT_SPP, privilege == SUPERVISOR);
        }

        /** The privilege to go back to. */
        int leaveMachine() {
            int back = previousPrivilege();
            put(BIT_MIE, has(BIT_MPIE));
            put(BIT_MPIE, true);
            put(BITS_MPP, false);
            if (back != MACHINE) {
                put(BIT_MPRV, false);
            }
            return back;
        }

        /** The privilege to go back to. */
        int leaveSupervisor() {
            int back = has(BIT_SPP) ? SUPERVISOR : USER;
            put(BIT_SIE, has(BIT_SPIE));
            put(BIT_SPIE, true);
            put(BIT_SPP, false);
            put(BIT_MPRV, false);
            return back;
        }
    }

    /** The walk through the tables of pages. Physical addresses have 56 bits: what is below 0 is -1 - CAUSE. */
    private static final class Pager {
        private static final long VALID = 1;
        private static final long READ = 2;
        private static final long WRITE = 4;
        private static final long EXECUTE = 8;
        private static final long OF_USER = 16;
        private static final long ACCESSED = 64;
        private static final long DIRTY = 128;
        private static final long NUMBER = (1L << 44) - 1;

        static long physical(Controls controls, Ram ram, long v, int kind, int privilege) {
            if (v << 25 >> 25 != v) {
                return -1 - pageFault(kind);
            }
            long table = (controls.satp & NUMBER) << 12;
            for (int level = 2; level >= 0; level--) {
                long index = (v >>> (12 + 9 * level)) & 511;
                int at = ram.place(table + 8 * index, 8);
                if (at == NONE) {
                    return -1 - accessFault(kind);
                }
                long entry = ram.read(at, 8);
                if (broken(entry)) {
                    return -1 - pageFault(kind);
                }
                if ((entry & (READ | EXECUTE)) != 0) {
                    boolean open = opens(entry, kind, controls) && admits(entry, kind, privilege, controls);
                    return open && aligned(entry, level) ? joined(entry, v, level) : -1 - pageFault(kind);
                }
                if ((entry & (OF_USER | ACCESSED | DIRTY)) != 0) {
                    return -1 - pageFault(kind);
                }
                table = ((entry >>> 10) & NUMBER) << 12;
            }
            return -1 - pageFault(kind);
        }

        private static boolean broken(long entry) {
            return (entry & VALID) == 0 || (entry & (READ | WRITE)) == WRITE || entry >>> 54 != 0;
        }

        private static boolean opens(long entry, int kind, Controls controls) {
            if ((entry & ACCESSED) == 0) {
                return false;
            }
            switch (kind) {
                case FETCH: return (entry & EXECUTE) != 0;
                case LOAD:
                    boolean lent = (controls.status & Controls.BIT_MXR) != 0;
                    return (entry & (lent ? READ | EXECUTE : READ)) != 0;
                default: return (entry & WRITE) != 0 && (entry & DIRTY) != 0;
            }
        }

        private static boolean admits(long entry, int kind, int privilege, Controls controls) {
            boolean ofUser = (entry & OF_USER) != 0;
            if (privilege == USER) {
                return ofUser;
            }
            return !ofUser || (kind != FETCH && (controls.status & Controls.BIT_SUM) != 0);
        }

        private static boolean aligned(long entry, int level) {
            return ((entry >>> 10) & ((1L << (9 * level)) - 1)) == 0;
        }

        private static long joined(long entry, long v, int level) {
            long own = (1L << (12 + 9 * level)) - 1;
            return ((((entry >>> 10) & NUMBER) << 12) & ~own) | (v & own);
        }

        static int accessFault(int kind) {
            switch (kind) {
                case FETCH: return 1;
                case LOAD: return 5;
                default: return 7;
            }
        }

        private static int pageFault(int kind) {
            switch (kind) {
                case FETCH: return 12;
                case LOAD: return 13;
                default: return 15;
            }
        }
    }

    /** The processor: its registers, its traps, and what each instruction of 32 bits does. */
    private static final class Hart {
        /** Interrupts, the one that goes first foremost. */
        private static final int[] RANKS = {11, 3, 7, 9, 1, 5};
        private static final int ILLEGAL = 2;
        private static final int BREAK = 3;
        private static final int CALL = 8;
        private static final int OF_INTERRUPTS = 64;

        private final Bus bus;
        private final Controls controls;
        private final long[] registers = new long[32];
        private long pc = RAM_BASE;
        private int privilege = MACHINE;
        /** The instruction as it lies in memory, and where the one behind it, or the one it goes to, lies. */
        private int raw;
        private long next;
        /** The trap of this step so far, or NONE. */
        private int cause = NONE;
        private long value;
        private int traps;
        private int interrupts;
        private int latest = NONE;

        Hart(Bus bus, Controls controls) {
            this.bus = bus;
            this.controls = controls;
        }

        /** One step: whether an instruction was done. */
        boolean advance() {
            cause = NONE;
            int due = dueInterrupt();
            if (due != NONE) {
                interrupts++;
                latest = OF_INTERRUPTS + due;
                enter(due, true, 0);
            } else {
                int w = fetched();
                if (cause == NONE) {
                    execute(w);
                }
                if (cause == NONE) {
                    pc = next;
                    controls.retired++;
                } else {
                    traps++;
                    latest = cause;
                    enter(cause, false, value);
                }
            }
            controls.cycle++;
            bus.time++;
            bus.settle();
            return due == NONE && cause == NONE;
        }

        private int dueInterrupt() {
            long open = controls.mie == 0 ? 0 : controls.mie & controls.pendingInterrupts();
            if (open == 0) {
                return NONE;
            }
            long ofMachine = open & ~controls.mideleg;
            if (ofMachine != 0 && (privilege < MACHINE || controls.has(Controls.BIT_MIE))) {
                return foremost(ofMachine);
            }
            boolean heard = privilege == USER || (privilege == SUPERVISOR && controls.has(Controls.BIT_SIE));
            return heard ? foremost(open & controls.mideleg) : NONE;
        }

        private static int foremost(long open) {
            for (int i : RANKS) {
                if ((open >> i & 1) != 0) {
                    return i;
                }
            }
            return NONE;
        }

        private void enter(int number, boolean interrupt, long trapValue) {
            long delegated = interrupt ? controls.mideleg : controls.medeleg;
            boolean given = privilege < MACHINE && (delegated >> number & 1) != 0;
            Level level = given ? controls.supervisor : controls.machine;
            level.epc = pc;
            level.cause = interrupt ? Long.MIN_VALUE + number : number;
            level.tval = trapValue;
            if (given) {
                controls.enterSupervisor(privilege);
            } else {
                controls.enterMachine(privilege);
            }
            boolean spread = interrupt && (level.tvec & 1) != 0;
            pc = (level.tvec & ~3L) + (spread ? 4L * number : 0L);
            privilege = given ? SUPERVISOR : MACHINE;
            bus.endReservation();
        }

        private void fail(int why, long what) {
            cause = why;
            value = what;
        }

        private void illegal() {
            fail(ILLEGAL, raw & 0xffffffffL);
        }

        /** The instruction at PC, widened to 32 bits; fails if there is none. */
        private int fetched() {
            int lower = fetchedHalf(pc);
            if (cause != NONE) {
                return 0;
            }
            if ((lower & 3) != 3) {
                raw = lower;
                next = pc + 2;
                return Expander.widened(lower);
            }
            raw = (fetchedHalf(pc + 2) << 16) | lower;
            next = pc + 4;
            return raw;
        }

        private int fetchedHalf(long v) {
            long address = reached(v, 2, FETCH);
            if (cause != NONE) {
                return 0;
            }
            int at = bus.ram.place(address, 2);
            if (at == NONE) {
                fail(Pager.accessFault(FETCH), v);
            }
            return (int) bus.ram.read(at, 2);
        }

        int privilegeFor(int kind) {
            return kind != FETCH && controls.has(Controls.BIT_MPRV) ? controls.previousPrivilege() : privilege;
        }

        /** The physical address of n bytes at V; fails if V is misaligned or its translation faults. */
        private long reached(long v, int n, int kind) {
            if ((v & (n - 1)) != 0) {
                fail(kind == STORE ? 6 : 4, v);
                return 0;
            }
            int p = privilegeFor(kind);
            if (!controls.pages(p)) {
                return v;
            }
            long address = Pager.physical(controls, bus.ram, v, kind, p);
            if (address < 0) {
                fail((int) (-1 - address), v);
            }
            return address;
        }

        private static int f(int w) {
            return (w >> 12) & 7;
        }

        private long a(int w) {
            return registers[(w >> 15) & 31];
        }

        private long b(int w) {
            return registers[(w >> 20) & 31];
        }

        private void putRd(int w, long v) {
            int rd = (w >> 7) & 31;
            if (rd != 0) {
                registers[rd] = v;
            }
        }

        private void execute(int w) {
            switch (w & 0x7f) {
                case 0x37: putRd(w, w & 0xfffff000); break;
                case 0x17: putRd(w, pc + (w & 0xfffff000)); break;
                case 0x6f: jump(w, pc + jumpOffset(w)); break;
                case 0x67: jumpByRegister(w); break;
                case 0x63: branch(w); break;
                case 0x03: loadRegister(w); break;
                case 0x23: storeRegister(w); break;
                case 0x13: computeWithConstant(w); break;
                case 0x1b: computeNarrowWithConstant(w); break;
                case 0x33: compute(w); break;
                case 0x3b: computeNarrow(w); break;
                case 0x2f: atomic(w); break;
                case 0x0f: fence(w); break;
                case 0x73:
                    if (f(w) == 0) {
                        system(w);
                    } else {
                        controlInstruction(w);
                    }
                    break;
                default: illegal(); break;
            }
        }

        private void jump(int w, long target) {
            putRd(w, next);
            next = target;
        }

        private static int jumpOffset(int w) {
            return ((w >> 31) << 20) | (w & 0xff000) | (((w >> 20) & 1) << 11) | (((w >> 21) & 1023) << 1);
        }

        private void jumpByRegister(int w) {
            if (f(w) == 0) {
                jump(w, (a(w) + (w >> 20)) & ~1L);
            } else {
                illegal();
            }
        }

        private void branch(int w) {
            int f = f(w);
            if (f == 2 || f == 3) {
                illegal();
                return;
            }
            long a = a(w);
            long b = b(w);
            boolean holds = f < 2 ? a == b : f < 6 ? a < b : Arithmetic.below(a, b);
            // An odd f is the opposite of the one below it.
            if (holds == ((f & 1) == 0)) {
                next = pc + branchOffset(w);
            }
        }

        private static int branchOffset(int w) {
            return ((w >> 31) << 12) | (((w >> 7) & 1) << 11) | (((w >> 25) & 63) << 5) | (((w >> 8) & 15) << 1);
        }

        private void loadRegister(int w) {
            int f = f(w);
            if (f == 7) {
                illegal();
                return;
            }
            int n = 1 << (f & 3);
            long v = a(w) + (w >> 20);
            long address = reached(v, n, LOAD);
            if (cause != NONE) {
                return;
            }
            long read = bus.read(address, n);
            if (bus.failed) {
                fail(Pager.accessFault(LOAD), v);
                return;
            }
            putRd(w, f < 4 ? Arithmetic.signed(read, n) : read);
        }

        private void storeRegister(int w) {
            int f = f(w);
            if (f > 3) {
                illegal();
                return;
            }
            int n = 1 << f;
            long v = a(w) + (((w >> 25) << 5) | ((w >> 7) & 31));
            long address = reached(v, n, STORE);
            if (cause != NONE) {
                return;
            }
            bus.write(address, n, b(w));
            if (bus.failed) {
                fail(Pager.accessFault(STORE), v);
            }
        }

        private void computeWithConstant(int w) {
            int f = f(w);
            int kind = w >>> 26;
            boolean shift = f == 1 || f == 5;
            if (shift && kind != 0 && !(f == 5 && kind == 16)) {
                illegal();
                return;
            }
            putRd(w, Arithmetic.plain(f, a(w), w >> 20, shift && kind == 16));
        }

        private void computeNarrowWithConstant(int w) {
            int f = f(w);
            int g = w >>> 25;
            boolean legal = f == 0 || (f == 1 && g == 0) || (f == 5 && (g == 0 || g == 32));
            if (!legal) {
                illegal();
                return;
            }
            putRd(w, Arithmetic.narrow(f, (int) a(w), w >> 20, f == 5 && g == 32));
        }

        private void compute(int w) {
            int f = f(w);
            int g = w >>> 25;
            if (g == 1) {
                putRd(w, Arithmetic.product(f, a(w), b(w)));
            } else if (g == 0 || (g == 32 && (f == 0 || f == 5))) {
                putRd(w, Arithmetic.plain(f, a(w), b(w), g == 32));
            } else {
                illegal();
            }
        }

        private void computeNarrow(int w) {
            int f = f(w);
            int g = w >>> 25;
            if (g == 1 && (f == 0 || f > 3)) {
                putRd(w, Arithmetic.narrowProduct(f, (int) a(w), (int) b(w)));
            } else if ((g == 0 && (f == 0 || f == 1 || f == 5)) || (g == 32 && (f == 0 || f == 5))) {
                putRd(w, Arithmetic.narrow(f, (int) a(w), (int) b(w), g == 32));
            } else {
                illegal();
            }
        }

        private void atomic(int w) {
            int f = f(w);
            int what = w >>> 27;
            boolean reserving = what == Arithmetic.RESERVE;
            if ((f != 2 && f != 3) || !Arithmetic.isAtomic(what) || (reserving && ((w >> 20) & 31) != 0)) {
                illegal();
                return;
            }
            int n = 1 << f;
            int kind = reserving ? LOAD : STORE;
            long v = a(w);
            long address = reached(v, n, kind);
            if (cause != NONE) {
                return;
            }
            if (bus.ram.place(address, n) == NONE) {
                fail(Pager.accessFault(kind), v);
            } else if (what == Arithmetic.STORE_RESERVED) {
                storeReserved(w, address, n);
            } else {
                long b = b(w);
                long read = Arithmetic.signed(bus.read(address, n), n);
                putRd(w, read);
                if (reserving) {
                    bus.reserve(address, n);
                } else {
                    bus.write(address, n, Arithmetic.atomic(what, read, Arithmetic.signed(b, n)));
                }
            }
        }

        private void storeReserved(int w, long address, int n) {
            boolean kept = bus.reserves(address, n);
            if (kept) {
                bus.write(address, n, b(w));
            }
            putRd(w, kept ? 0 : 1);
            bus.endReservation();
        }

        private void fence(int w) {
            if (f(w) > 1) {
                illegal();
            }
        }

        private void system(int w) {
            switch (w) {
                case 0x73: fail(CALL + privilege, 0); break;
                case 0x100073: fail(BREAK, pc); break;
                case 0x30200073: returnFromMachine(); break;
                case 0x10200073: returnFromSupervisor(); break;
                case 0x10500073: nothingUnless(Controls.BIT_TW); break;
                default:
                    if (w >>> 25 == 9 && ((w >> 7) & 31) == 0) {
                        nothingUnless(Controls.BIT_TVM);
                    } else {
                        illegal();
                    }
                    break;
            }
        }

        private void nothingUnless(long bit) {
            if (privilege == USER || (privilege == SUPERVISOR && controls.has(bit))) {
                illegal();
            }
        }

        private void returnFromMachine() {
            if (privilege != MACHINE) {
                illegal();
                return;
            }
            next = controls.machine.epc;
            privilege = controls.leaveMachine();
            bus.endReservation();
        }

        private void returnFromSupervisor() {
            if (privilege == USER || (privilege == SUPERVISOR && controls.has(Controls.BIT_TSR))) {
                illegal();
                return;
            }
            next = controls.supervisor.epc;
            privilege = controls.leaveSupervisor();
            bus.endReservation();
        }

        private void controlInstruction(int w) {
            int how = f(w) & 3;
            int number = w >>> 20;
            int source = (w >> 15) & 31;
            boolean writes = how == 1 || source != 0;
            if (how == 0 || !controls.allows(number, privilege, writes)) {
                illegal();
                return;
            }
            long a = f(w) > 3 ? source : a(w);
            long old = controls.read(number);
            if (writes) {
                controls.write(number, how == 1 ? a : how == 2 ? old | a : old & ~a);
            }
            putRd(w, old);
        }
    }

    /** Instructions of 16 bits as the ones of 32 bits that they stand for. */
    private static final class Expander {
        /** No instruction of 32 bits: to execute it is illegal. */
        private static final int ILLEGAL = 0;
        private static final int BREAK = 0x100073;

        static int widened(int h) {
            switch (h & 3) {
                case 0: return ofFirstKind(h);
                case 1: return ofSecondKind(h);
                case 2: return ofThirdKind(h);
                default: return ILLEGAL;
            }
        }

        private static int ofFirstKind(int h) {
            int base = 8 + bits(h, 7, 7);
            int other = 8 + bits(h, 2, 7);
            int byFour = bits(h, 5, 1) << 6 | bits(h, 10, 7) << 3 | bits(h, 6, 1) << 2;
            int byEight = bits(h, 5, 3) << 6 | bits(h, 10, 7) << 3;
            switch (h >> 13) {
                case 0:
                    int up = bits(h, 7, 15) << 6 | bits(h, 11, 3) << 4 | bits(h, 5, 1) << 3 | bits(h, 6, 1) << 2;
                    return up == 0 ? ILLEGAL : withConstant(0x13, 0, other, 2, up);
                case 2: return withConstant(0x03, 2, other, base, byFour);
                case 3: return withConstant(0x03, 3, other, base, byEight);
                case 6: return storing(2, base, other, byFour);
                case 7: return storing(3, base, other, byEight);
                default: return ILLEGAL;
            }
        }

        private static int ofSecondKind(int h) {
            int r = bits(h, 7, 31);
            int i6 = highest(h) << 5 | bits(h, 2, 31);
            switch (h >> 13) {
                case 0: return withConstant(0x13, 0, r, r, i6);
                case 1: return r == 0 ? ILLEGAL : withConstant(0x1b, 0, r, r, i6);
                case 2: return withConstant(0x13, 0, r, 0, i6);
                case 3: return r == 2 ? ofStack(h) : i6 == 0 ? ILLEGAL : i6 << 12 | r << 7 | 0x37;
                case 4: return computing(h, i6);
                case 5: return jumping(h);
                case 6: return branching(h, 0);
                default: return branching(h, 1);
            }
        }

        private static int ofThirdKind(int h) {
            int r = bits(h, 7, 31);
            int s = bits(h, 2, 31);
            int loadFour = bits(h, 2, 3) << 6 | bits(h, 12, 1) << 5 | bits(h, 4, 7) << 2;
            int loadEight = bits(h, 2, 7) << 6 | bits(h, 12, 1) << 5 | bits(h, 5, 3) << 3;
            int storeFour = bits(h, 7, 3) << 6 | bits(h, 9, 15) << 2;
            int storeEight = bits(h, 7, 7) << 6 | bits(h, 10, 7) << 3;
            switch (h >> 13) {
                case 0: return withConstant(0x13, 1, r, r, bits(h, 12, 1) << 5 | s);
                case 2: return r == 0 ? ILLEGAL : withConstant(0x03, 2, r, 2, loadFour);
                case 3: return r == 0 ? ILLEGAL : withConstant(0x03, 3, r, 2, loadEight);
                case 4: return bits(h, 12, 1) == 0 ? movingOrJumping(r, s) : addingOrLinking(r, s);
                case 6: return storing(2, 2, s, storeFour);
                case 7: return storing(3, 2, s, storeEight);
                default: return ILLEGAL;
            }
        }

        private static int ofStack(int h) {
            int by = highest(h) << 9 | bits(h, 3, 3) << 7 | bits(h, 5, 1) << 6 | bits(h, 2, 1) << 5 | bits(h, 6, 1) << 4;
            return by == 0 ? ILLEGAL : withConstant(0x13, 0, 2, 2, by);
        }

        private static int computing(int h, int i6) {
            int r = 8 + bits(h, 7, 7);
            int s = 8 + bits(h, 2, 7);
            switch (bits(h, 10, 3)) {
                case 0: return withConstant(0x13, 5, r, r, i6 & 63);
                case 1: return withConstant(0x13, 5, r, r, 0x400 | (i6 & 63));
                case 2: return withConstant(0x13, 7, r, r, i6);
                default: break;
            }
            switch (bits(h, 12, 1) << 2 | bits(h, 5, 3)) {
                case 0: return withRegister(0x33, 0, 32, r, r, s);
                case 1: return withRegister(0x33, 4, 0, r, r, s);
                case 2: return withRegister(0x33, 6, 0, r, r, s);
                case 3: return withRegister(0x33, 7, 0, r, r, s);
                case 4: return withRegister(0x3b, 0, 32, r, r, s);
                case 5: return withRegister(0x3b, 0, 0, r, r, s);
                default: return ILLEGAL;
            }
        }

        private static int movingOrJumping(int r, int s) {
            if (s != 0) {
                return withRegister(0x33, 0, 0, r, 0, s);
            }
            return r == 0 ? ILLEGAL : withConstant(0x67, 0, 0, r, 0);
        }

        private static int addingOrLinking(int r, int s) {
            if (s != 0) {
                return withRegister(0x33, 0, 0, r, r, s);
            }
            return r == 0 ? BREAK : withConstant(0x67, 0, 1, r, 0);
        }

        private static int jumping(int h) {
            int by = highest(h) << 11 | bits(h, 8, 1) << 10 | bits(h, 9, 3) << 8 | bits(h, 6, 1) << 7
                | bits(h, 7, 1) << 6 | bits(h, 2, 1) << 5 | bits(h, 11, 1) << 4 | bits(h, 3, 7) << 1;
            return bits(by, 20, 1) << 31 | bits(by, 1, 1023) << 21 | bits(by, 11, 1) << 20
                | bits(by, 12, 255) << 12 | 0x6f;
        }

        private static int branching(int h, int f) {
            int r = 8 + bits(h, 7, 7);
            int by = highest(h) << 8 | bits(h, 5, 3) << 6 | bits(h, 2, 1) << 5 | bits(h, 10, 3) << 3 | bits(h, 3, 3) << 1;
            return bits(by, 12, 1) << 31 | bits(by, 5, 63) << 25 | r << 15 | f << 12
                | bits(by, 1, 15) << 8 | bits(by, 11, 1) << 7 | 0x63;
        }

        private static int withConstant(int code, int f, int rd, int rs1, int constant) {
            return constant << 20 | rs1 << 15 | f << 12 | rd << 7 | code;
        }

        private static int withRegister(int code, int f, int g, int rd, int rs1, int rs2) {
            return g << 25 | rs2 << 20 | rs1 << 15 | f << 12 | rd << 7 | code;
        }

        private static int storing(int f, int rs1, int rs2, int offset) {
            return bits(offset, 5, 127) << 25 | rs2 << 20 | rs1 << 15 | f << 12 | bits(offset, 0, 31) << 7 | 0x23;
        }

        private static int bits(int v, int from, int mask) {
            return (v >> from) & mask;
        }

        /** H[12] as a sign: 0 or -1. */
        private static int highest(int h) {
            return -((h >> 12) & 1);
        }
    }

    /** What instructions compute, by their f. */
    private static final class Arithmetic {
        private static final int RESERVE = 2;
        private static final int STORE_RESERVED = 3;

        static boolean below(long a, long b) {
            return a + Long.MIN_VALUE < b + Long.MIN_VALUE;
        }

        static long signed(long v, int n) {
            int above = 64 - 8 * n;
            return v << above >> above;
        }

        /** The other way: a difference for the sum, the highest bit for 0s. */
        static long plain(int f, long a, long b, boolean otherWay) {
            switch (f) {
                case 0: return otherWay ? a - b : a + b;
                case 1: return a << (b & 63);
                case 2: return a < b ? 1 : 0;
                case 3: return below(a, b) ? 1 : 0;
                case 4: return a ^ b;
                case 5: return otherWay ? a >> (b & 63) : a >>> (b & 63);
                case 6: return a | b;
                default: return a & b;
            }
        }

        static long narrow(int f, int a, int b, boolean otherWay) {
            switch (f) {
                case 0: return otherWay ? a - b : a + b;
                case 1: return a << (b & 31);
                default: return otherWay ? a >> (b & 31) : a >>> (b & 31);
            }
        }

        static long product(int f, long a, long b) {
            switch (f) {
                case 0: return a * b;
                case 1: return upperUnsigned(a, b) - (a < 0 ? b : 0) - (b < 0 ? a : 0);
                case 2: return upperUnsigned(a, b) - (a < 0 ? b : 0);
                case 3: return upperUnsigned(a, b);
                case 4: return b == 0 ? -1 : a / b;
                case 5: return b == 0 ? -1 : quotientUnsigned(a, b);
                case 6: return b == 0 ? a : a % b;
                default: return b == 0 ? a : a - b * quotientUnsigned(a, b);
            }
        }

        static long narrowProduct(int f, int a, int b) {
            long plainA = a & 0xffffffffL;
            long plainB = b & 0xffffffffL;
            switch (f) {
                case 0: return a * b;
                case 4: return b == 0 ? -1 : a / b;
                case 5: return plainB == 0 ? -1 : (int) (plainA / plainB);
                case 6: return b == 0 ? a : a % b;
                default: return plainB == 0 ? a : (int) (plainA % plainB);
            }
        }

        private static long upperUnsigned(long a, long b) {
            long lowA = a & 0xffffffffL;
            long lowB = b & 0xffffffffL;
            long highA = a >>> 32;
            long highB = b >>> 32;
            long crossA = highA * lowB;
            long crossB = lowA * highB;
            long carry = ((lowA * lowB >>> 32) + (crossA & 0xffffffffL) + (crossB & 0xffffffffL)) >>> 32;
            return highA * highB + (crossA >>> 32) + (crossB >>> 32) + carry;
        }

        private static long quotientUnsigned(long a, long b) {
            if (b <= 0) {
                // At least 2^63 (0 is not asked for): it goes into a once or not at all.
                return b == 0 || below(a, b) ? 0 : 1;
            }
            if (a >= 0) {
                return a / b;
            }
            // Half of a is no longer negative; what the halving lost is at most one b.
            long quotient = (a >>> 1) / b << 1;
            return below(a - quotient * b, b) ? quotient : quotient + 1;
        }

        static boolean isAtomic(int what) {
            return what < 4 || (what & 3) == 0;
        }

        static long atomic(int what, long read, long b) {
            switch (what) {
                case 0: return read + b;
                case 1: return b;
                case 4: return read ^ b;
                case 8: return read | b;
                case 12: return read & b;
                case 16: return read < b ? read : b;
                case 20: return read > b ? read : b;
                case 24: return below(read, b) ? read : b;
                default: return below(read, b) ? b : read;
            }
        }
    }
}
