import java.util.Arrays;
import java.util.Random;

/**
 * All promises at once: random runs of calls on a board and on the second reading of the document, compared in some
 * places after every change and in all at the end. No run has more calls than an object is used for. The seeds are fixed;
 * as arguments: the first seed, how many runs.
 */
public final class ModelTest {
    private static final long RAM = Code.RAM;
    private static final int[] CONTROLS = {0x100, 0x104, 0x105, 0x106, 0x140, 0x141, 0x142, 0x143, 0x144, 0x180, 0x300,
        0x301, 0x302, 0x303, 0x304, 0x305, 0x306, 0x340, 0x341, 0x342, 0x343, 0x344, 0xb00, 0xb02, 0xc00, 0xc01, 0xc02,
        0xf11, 0xf12, 0xf13, 0xf14};
    private static final long[] EDGES = {0, 1, 2, -1, -2, 7, 8, 63, 64, Long.MIN_VALUE, Long.MAX_VALUE, 0x7fffffffL,
        0x80000000L, 0xffffffffL, -0x80000000L, 0x100000000L, 0x5555555555555555L, 255, 4096};
    private static final int[] ATOMICS = {0, 1, 2, 3, 4, 8, 12, 16, 20, 24, 28, 2, 3, 2, 3};
    private static final int MOST_CALLS = 512;
    /** What is kept for the end: all registers, looks, control registers, three translations, some words of RAM. */
    private static final int AT_THE_END = 33 + 11 + CONTROLS.length + 3 + 60;
    /** More calls than any single change needs, with what is compared behind it. */
    private static final int OF_A_CHANGE = 50;
    /** How often each cause was the latest behind a step; interrupts from 64 on. */
    private static final long[] SEEN = new long[80];

    private final Random random;
    private final HartBoard board;
    private final Model model;
    private final int seed;
    private String call = "new";
    private int calls = 0;

    private ModelTest(int seed) {
        this.seed = seed;
        random = new Random(seed * 7919L + 17);
        int pages = new int[] {16, 16, 20, 64, 3}[random.nextInt(5)];
        board = new HartBoard(pages);
        model = new Model(pages);
    }

    private int any(int n) {
        return random.nextInt(n);
    }

    private boolean oneIn(int n) {
        return random.nextInt(n) == 0;
    }

    private long device() {
        switch (any(9)) {
            case 0: return 0x2000000L + (oneIn(4) ? 4 : 0);
            case 1: return 0x2004000L + 4 * any(2);
            case 2: return 0x200bff8L + 4 * any(2);
            case 3: return 0xc000000L + 4 * any(9);
            case 4: return 0xc001000L;
            case 5: return 0xc002000L + 0x80 * any(2) + (oneIn(8) ? 4 : 0);
            case 6: return 0xc200000L + 0x1000 * any(2) + 4 * any(oneIn(8) ? 3 : 2);
            case 7: return 0xc200004L + 0x1000 * any(2);
            default: return 0x10000000L + any(9);
        }
    }

    private long value() {
        switch (any(12)) {
            case 0: return random.nextLong();
            case 1: return random.nextInt();
            case 2: return EDGES[any(EDGES.length)];
            case 3: case 4: return device();
            case 5: return RAM + any(65536);
            case 6: return RAM + 16L * 4096 - 8 + any(12);
            case 7: return any(8);
            default: return RAM + 0x4000 + 8 * any(64);
        }
    }

    private int register() {
        return oneIn(3) ? any(32) : any(8) == 0 ? 2 : 8 + any(8);
    }

    private int control() {
        return oneIn(24) ? any(4096) : CONTROLS[any(CONTROLS.length)];
    }

    private int word() {
        int rd = register();
        int rs1 = register();
        int rs2 = register();
        switch (any(26)) {
            case 0: return random.nextInt() | 3;
            case 1: return random.nextInt() << 12 | rd << 7 | (oneIn(2) ? 0x37 : 0x17);
            case 2: return Code.jal(rd, 2 * (any(60) - 20));
            case 3: return Code.i(0x67, oneIn(9) ? any(8) : 0, rd, rs1, any(64) - 32);
            case 4: case 5: return Code.branch(any(8), rs1, rs2, 2 * (any(40) - 10));
            case 6: case 7: case 8: return Code.load(any(8), rd, rs1, oneIn(2) ? 0 : any(64) - 32);
            case 9: case 10: case 11: return Code.store(any(oneIn(9) ? 8 : 4), rs2, rs1, oneIn(2) ? 0 : any(64) - 32);
            case 12: case 13: return Code.i(oneIn(2) ? 0x13 : 0x1b, any(8), rd, rs1, constant());
            case 14: case 15: case 16:
                int g = oneIn(9) ? any(128) : new int[] {0, 1, 32, 1}[any(4)];
                return Code.r(oneIn(2) ? 0x33 : 0x3b, any(8), g, rd, rs1, rs2);
            case 17: case 18: case 19: return atomic(rd, rs1, rs2);
            case 20: return new int[] {Code.ECALL, Code.EBREAK, Code.MRET, Code.SRET, Code.WFI, Code.FENCE | any(3) << 12,
                Code.SFENCE | rs1 << 15 | rs2 << 20, Code.MRET, Code.SRET, Code.SFENCE | (oneIn(3) ? rd << 7 : 0)}[any(10)];
            default: return Code.control(oneIn(3) ? any(8) : 1 + any(3), rd, control(), oneIn(3) ? 0 : rs1);
        }
    }

    private int constant() {
        return oneIn(2) ? any(64) : oneIn(2) ? 0x400 | any(64) : any(4096);
    }

    private int atomic(int rd, int rs1, int rs2) {
        int what = oneIn(12) ? any(32) : ATOMICS[any(ATOMICS.length)];
        return Code.atomic(what, oneIn(16) ? any(8) : 2 + any(2), rd, rs1, what == 2 && !oneIn(9) ? 0 : rs2) | any(4) << 25;
    }

    private void program(long from, int bytes) {
        long eight = 0;
        int at = 0;
        while (at < bytes) {
            int h = any(65536);
            boolean narrow = oneIn(2);
            int w = narrow ? (h & 3) == 3 ? h ^ 1 : h : word();
            for (int k = 0; k < (narrow ? 2 : 4); k += 2) {
                eight |= (w >>> 8 * k & 0xffffL) << at % 8 * 8;
                at += 2;
                if (at % 8 == 0) {
                    poke(from + at - 8, 8, eight);
                    eight = 0;
                }
            }
        }
    }

    private void poke(long address, int n, long v) {
        calls++;
        board.poke(address, n, v);
        model.ramWrite(address, n, v);
    }

    private void order(int number, long v) {
        calls++;
        board.order(number, v);
        model.writeControl(number, v);
    }

    private void set(int register, long v) {
        calls++;
        board.set(register, v);
        if (register == 32) {
            model.pc = v & ~1L;
        } else {
            model.put(register, v);
        }
    }

    private long entry(int level, boolean pointer) {
        long number = pointer ? RAM / 4096 + 10 + (2 - level) : RAM / 4096 + any(16);
        long flags = pointer ? 1 : 0xcf | (oneIn(2) ? 16 : 0);
        if (oneIn(6)) {
            flags ^= 1 << any(8);
        }
        if (!pointer && level > 0) {
            number = RAM / 4096 >> 9 * level << 9 * level | (oneIn(12) ? 1L << any(9 * level) : 0);
        }
        if (oneIn(40)) {
            number = random.nextLong() & (1L << 44) - 1;
        }
        return number << 10 | flags | (oneIn(40) ? 1L << 54 + any(10) : 0) | (long) any(4) << 8;
    }

    /** Tables in pages 10, 11, 12: addresses 0 .. 16 pages by three levels, those of RAM by leaves or by tables too. */
    private void tables() {
        long root = RAM + 10 * 4096;
        poke(root, 8, entry(2, true));
        poke(root + 8 * 2, 8, entry(2, oneIn(3)));
        poke(root + 8 * 511, 8, entry(2, oneIn(2)));
        poke(root + 4096, 8, entry(1, !oneIn(6)));
        poke(root + 4096 + 8 * 511, 8, entry(1, oneIn(2)));
        for (int k = 0; k < 20; k++) {
            poke(root + 8192 + 8 * (k < 16 ? k : 492 + k), 8, entry(0, oneIn(20)));
        }
        order(0x180, 8L << 60 | (oneIn(12) ? random.nextLong() & 0xfff : RAM / 4096 + 10) | (long) any(16) << 44);
    }

    private void beginning() {
        program(RAM, 200);
        program(RAM + 0x1000, 120);
        program(RAM + 0x2000, 120);
        for (int k = 1; k < 32; k++) {
            set(k, value());
        }
        order(0x305, RAM + 0x1000 + any(2));
        order(0x105, (oneIn(2) ? RAM : 0) + 0x2000 + any(2));
        if (!oneIn(3)) {
            order(0x302, random.nextLong() & random.nextLong());
            order(0x303, random.nextLong());
        }
        if (!oneIn(3)) {
            tables();
        }
        if (oneIn(2)) {
            allDevices();
        }
        if (oneIn(2)) {
            order(0x304, random.nextLong());
            order(0x300, random.nextLong());
        }
    }

    /** A store of 4 bytes (of 1 into the line) from the machine's privilege: devices are not reached otherwise. */
    private void device(long address, long v) {
        call = "device " + Long.toHexString(address) + " " + v;
        lower(3);
        set(30, address);
        set(31, v);
        poke(RAM + 0x3000, 4, Code.store(address >= 0x10000000L ? 0 : 2, 31, 30, 0));
        set(32, RAM + 0x3000);
        calls++;
        due("the store", board.step(1), model.once() ? 1 : 0);
    }

    private void lower(int p) {
        calls++;
        board.lower(p);
        model.priv = p;
    }

    private void allDevices() {
        for (int k = 0; k < 15; k++) {
            setDevice(k);
        }
    }

    private void setDevice(int which) {
        switch (which) {
            case 0: device(0xc002000L, random.nextInt()); break;
            case 1: device(0xc002080L, random.nextInt()); break;
            case 2: device(0xc200000L, any(8) & any(8)); break;
            case 3: device(0xc201000L, any(8) & any(8)); break;
            case 4: device(0x10000001L, any(256)); break;
            case 5: device(0x2004004L, oneIn(2) ? 0 : -1); break;
            case 6: device(0x2004000L, any(200)); break;
            case 7: device(0x2000000L, any(8) == 0 ? 1 : 0); break;
            default: device(0xc000000L + 4 * (which - 7), any(16)); break;
        }
    }

    /** Somewhere else in the programs, at some privilege, often with interrupts open. */
    private void jump() {
        lower(new int[] {0, 1, 1, 3}[any(4)]);
        calls++;
        long base = board.translate(0, 0) >= 0 && oneIn(2) ? 0 : RAM;
        set(32, base + (oneIn(3) ? 0x1000 * any(3) : 0) + (oneIn(2) ? 0 : 2 * any(60)));
        if (oneIn(4)) {
            order(0x304, random.nextLong() & random.nextLong());
        }
        if (oneIn(4)) {
            order(0x303, random.nextLong());
        }
        if (oneIn(4)) {
            order(0x300, random.nextLong() & random.nextLong());
        }
        if (oneIn(4)) {
            order(0x344, random.nextLong() & random.nextLong());
        }
        if (oneIn(8)) {
            order(0x306, random.nextLong());
            order(0x106, random.nextLong());
        }
    }

    private void step() {
        if (oneIn(2)) {
            jump();
        }
        int n = oneIn(6) ? any(60) : any(6);
        call = "step(" + n + ")";
        int done = 0;
        for (int k = 0; k < n; k++) {
            boolean good = model.once();
            done += good ? 1 : 0;
            SEEN[good ? 79 : model.latest]++;
        }
        calls++;
        due("steps done", board.step(n), done);
    }

    private void change() {
        switch (any(14)) {
            case 0:
                for (int k = 0; k < 4; k++) {
                    setDevice(any(15));
                }
                break;
            case 1: {
                int n = 1 + any(8);
                long v = random.nextLong();
                call = "feed(" + n + ", " + v + ")";
                for (int k = 0; k < n; k++) {
                    model.tape.add((int) (v >> 8 * k & 255));
                }
                calls++;
                due("size", board.feed(n, v), model.tape.size());
                break;
            }
            case 2:
                call = "type()";
                calls++;
                due("left", board.type(), model.type());
                break;
            case 3: case 4: {
                int source = 2 + any(6);
                boolean high = random.nextBoolean();
                call = "raise(" + source + ", " + high + ")";
                calls++;
                board.raise(source, high);
                model.driven[source] = high;
                model.settle();
                break;
            }
            case 5: case 6: {
                int p = new int[] {0, 1, 3}[any(3)];
                call = "lower(" + p + ")";
                lower(p);
                break;
            }
            case 7: {
                int number = CONTROLS[any(CONTROLS.length)];
                long v = oneIn(2) ? random.nextLong() : value();
                call = "order(" + number + ", " + v + ")";
                order(number, v);
                break;
            }
            case 8:
                call = "set";
                set(any(33), value());
                break;
            case 9:
                call = "set of PC";
                set(32, RAM + 0x1000 * any(3) + 2 * any(40));
                break;
            case 10:
                call = "set of PC below";
                set(32, 0x1000 * any(3) + 2 * any(40) + (oneIn(5) ? 0xff0 : 0));
                break;
            case 11:
                call = "set of device";
                set(register(), device());
                break;
            case 12: {
                long at = RAM + any(65536 - 8);
                call = "poke";
                poke(at, 1 + any(8), random.nextLong());
                break;
            }
            default:
                call = "tables";
                tables();
        }
    }

    private void due(String what, long got, long want) {
        Check.due("seed " + seed + ", behind " + call + ": " + what, got, want);
    }

    private void compareRegister(int k) {
        calls++;
        due("register " + k, board.get(k), k == 32 ? model.pc : model.x[k]);
    }

    private void compareLook(int k) {
        calls++;
        due("look(" + k + ")", board.look(k), model.look(k));
    }

    private void compareControl(int number) {
        calls++;
        due("control 0x" + Integer.toHexString(number), board.control(number), model.readControl(number));
    }

    private void compareTranslate(int kind) {
        calls++;
        long v = oneIn(2) ? any(20) * 4096L + any(4096) : oneIn(2) ? RAM + any(80000) : -1L - any(16384);
        long address = oneIn(20) ? random.nextLong() : v;
        due("translate(" + address + ", " + kind + ")", board.translate(address, kind), model.translate(address, kind));
    }

    private void compareSome() {
        compareRegister(oneIn(3) ? 32 : any(32));
        compareLook(any(11));
        compareControl(CONTROLS[any(CONTROLS.length)]);
        if (oneIn(2)) {
            compareTranslate(any(3));
        }
    }

    private void compareAll() {
        for (int k = 0; k <= 32; k++) {
            compareRegister(k);
        }
        for (int k = 0; k <= 10; k++) {
            compareLook(k);
        }
        for (int number : CONTROLS) {
            compareControl(number);
        }
        for (int k = 0; k < 3; k++) {
            compareTranslate(k);
        }
    }

    /** The words of RAM that were written last, and bytes of OUTPUT, until no call is left. */
    private void compareMemory() {
        for (int k = model.output.size() - 1; k >= 0 && calls < MOST_CALLS - 30; k--) {
            calls++;
            due("out(" + k + ")", board.out(k), model.output.get(k));
        }
        for (int k = model.written.size() - 1; k >= 0 && calls < MOST_CALLS; k--) {
            calls++;
            long at = Math.min(model.written.get(k), RAM + model.ram.length - 8);
            due("RAM at " + Long.toHexString(at), board.peek(at), model.ramRead(at, 8));
        }
    }

    private void run() {
        beginning();
        model.written.clear();
        while (calls < MOST_CALLS - AT_THE_END - OF_A_CHANGE) {
            if (oneIn(3)) {
                change();
            } else {
                step();
            }
            compareSome();
        }
        compareAll();
        compareMemory();
        Check.due("seed " + seed + " has no more calls than are promised", calls <= MOST_CALLS);
    }

    public static void main(String[] args) {
        int first = args.length > 0 ? Integer.parseInt(args[0]) : 1;
        int runs = args.length > 1 ? Integer.parseInt(args[1]) : 12000;
        for (int seed = first; seed < first + runs; seed++) {
            new ModelTest(seed).run();
        }
        System.out.println("causes seen, instructions done last: " + Arrays.toString(SEEN));
        Check.end();
    }
}
