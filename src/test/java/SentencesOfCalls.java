/** What stands under the headings of the promises, 'Promise 1: A new object' to 'Promise 17: out'. */
final class SentencesOfCalls {
    private static final long RAM = Steps.RAM;
    private static final long END = Steps.END;
    private static final int[] FAR = {Integer.MIN_VALUE, -1, Integer.MAX_VALUE};
    private static final int[] NUMBERS = {0x100, 0x104, 0x105, 0x106, 0x140, 0x141, 0x142, 0x143, 0x144, 0x180, 0x300, 0x301,
        0x302, 0x303, 0x304, 0x305, 0x306, 0x340, 0x341, 0x342, 0x343, 0x344, 0xb00, 0xb02, 0xc00, 0xc01, 0xc02, 0xf11, 0xf12,
        0xf13, 0xf14};

    private SentencesOfCalls() {
    }

    static void run() {
        newObject();
        feed();
        feedOfWrongSize();
        feedBeyondTheEnd();
        wipe();
        load();
        type();
        typeBeyondTheEnd();
        poke();
        pokeOfWrongSize();
        pokeOutside();
        peek();
        peekOutside();
        set();
        setOfNone();
        get();
        getOfNone();
        lower();
        lowerToNone();
        control();
        controlOfNone();
        order();
        orderOfNone();
        raise();
        raiseOfNone();
        step();
        stepOfWrongNumber();
        translate();
        translateWithout();
        translateOfNoKind();
        look();
        lookOfNone();
        out();
        outOfNone();
        severalExceptions();
        refusedCalls();
        ownMemory();
    }

    private static void newObject() {
        Sentence.of(1, "So many pages of RAM (16 if it is not 16 .. 64).");
        int[][] rows = {{16, 16}, {17, 17}, {63, 63}, {64, 64}, {15, 16}, {65, 16}, {0, 16}, {-1, 16}, {-16, 16}, {80, 16},
            {Integer.MIN_VALUE, 16}, {Integer.MAX_VALUE, 16}, {65536 + 20, 16}};
        for (int[] row : rows) {
            HartBoard x = new HartBoard(row[0]);
            long end = RAM + 4096L * row[1];
            Check.due("pages of " + row[0], x.look(8), row[1]);
            x.poke(end - 1, 1, 0x5a);
            Check.due("the last byte of " + row[0], x.peek(end - 8), 0x5aL << 56);
            Check.dueNoSuchElement("a byte behind the pages of " + row[0], () -> x.poke(end, 1, 1));
            Check.dueNoSuchElement("eight bytes over the end of " + row[0], () -> x.peek(end - 7));
        }
    }

    /** The bytes that are typed, one after the other. */
    private static void dueInput(HartBoard x, int... bytes) {
        for (int b : bytes) {
            Check.due("the next byte of INPUT", Steps.loaded(x, 4, Steps.LINE), b);
        }
        Check.due("no more INPUT", x.look(1), 0);
    }

    private static void feed() {
        Sentence.of(2, "The n lowest bytes of v, lowest first, come behind the tape: how many it has.");
        for (int n = 1; n <= 8; n++) {
            HartBoard x = Steps.board();
            Check.due("a first byte", x.feed(1, 0xabc), 1);
            Check.due(n + " more", x.feed(n, 0xf8f7f6f5f4f3f2f1L), 1 + n);
            Check.due("one more", x.feed(1, -1), 2 + n);
            x.type();
            int[] want = new int[n + 2];
            want[0] = 0xbc;
            for (int k = 1; k <= n; k++) {
                want[k] = 0xf0 + k;
            }
            want[n + 1] = 0xff;
            dueInput(x, want);
        }
    }

    private static void feedOfWrongSize() {
        Sentence.of(2, "Throws IllegalArgumentException when n is not 1 .. 8;");
        HartBoard x = new HartBoard(16);
        for (int n : new int[] {0, 9, -8, 16, 256 + 1}) {
            Check.dueIllegalArgument("feed of " + n, () -> x.feed(n, 1));
        }
        for (int n : FAR) {
            Check.dueIllegalArgument("feed of " + n, () -> x.feed(n, 1));
        }
        Check.due("the tape stays empty", x.look(6), 0);
        Check.due("feed of 1", x.feed(1, 1), 1);
        Check.due("feed of 8", x.feed(8, 1), 9);
    }

    /** More calls than the document promises answers for: with 512 no tape has more than 4096 bytes. */
    private static HartBoard withTape(int size) {
        HartBoard x = new HartBoard(16);
        for (int k = 0; k + 8 <= size; k += 8) {
            x.feed(8, k);
        }
        for (int k = 0; k < size % 8; k++) {
            x.feed(1, k);
        }
        return x;
    }

    private static void feedBeyondTheEnd() {
        Sentence.of(2, "IllegalStateException when it would have more than 65536.");
        for (int n = 1; n <= 8; n++) {
            int size = n;
            HartBoard x = withTape(65536 - n + 1);
            Check.dueIllegalState("feed of " + n + ", one byte too many", () -> x.feed(size, -1));
            Check.due("the tape stays", x.look(6), 65536 - n + 1);
            HartBoard y = withTape(65536 - n);
            Check.due("feed of " + n + " up to the end", y.feed(n, -1), 65536);
            Check.dueIllegalState("feed onto a full tape", () -> y.feed(1, -1));
        }
    }

    private static void wipe() {
        Sentence.of(3, "The tape is empty: how many bytes it had.");
        HartBoard x = new HartBoard(16);
        Check.due("wipe of an empty tape", x.wipe(), 0);
        x.feed(8, 1);
        x.feed(1, 2);
        Check.due("wipe of nine bytes", x.wipe(), 9);
        Check.due("the tape is empty", x.look(6), 0);
        Check.due("wipe again", x.wipe(), 0);
        Check.due("feed onto the empty tape", x.feed(2, 0x4241), 2);
        x.type();
        x.feed(3, 1);
        Check.due("wipe leaves INPUT", x.wipe(), 3);
        dueInput(x, 0x41, 0x42);
        HartBoard full = withTape(65536);
        Check.due("wipe of a full tape", full.wipe(), 65536);
        Check.due("feed behind that", full.feed(8, 1), 8);
    }

    private static void load() {
        Sentence.of(4, "The tape, which stays, as an image: 0; or its error.");
        HartBoard x = new HartBoard(16);
        Check.due("no tape", x.load(), 1);
        Check.due("it stays empty", x.look(6), 0);
        HartBoard good = new Image(1, 128).row(0, 120, RAM, 8, 8).put(120, 8, 5).board();
        for (int k = 0; k < 2; k++) {
            good.poke(RAM, 8, 0);
            Check.due("an image", good.load(), 0);
            Check.due("what it brings", good.peek(RAM), 5);
            Check.due("the tape stays", good.look(6), 128);
        }
        good.feed(1, 7);
        Check.due("an image with one byte more", good.load(), 0);
        HartBoard bad = new Image(0, 128).board();
        Check.due("an image with an error", bad.load(), 4);
        Check.due("its tape stays", bad.look(6), 128);
        Check.due("its error again", bad.load(), 4);
    }

    private static void type() {
        Sentence.of(5, "The tape, which is used up, comes behind INPUT: how many bytes are left to be read then.");
        HartBoard x = Steps.board();
        Check.due("type of nothing", x.type(), 0);
        x.feed(3, 0x030201);
        Check.due("type of three", x.type(), 3);
        Check.due("the tape is used up", x.look(6), 0);
        Check.due("type again", x.type(), 3);
        Steps.loaded(x, 4, Steps.LINE);
        x.feed(2, 0x0504);
        Check.due("type behind two that are left", x.type(), 4);
        dueInput(x, 2, 3, 4, 5);
        Check.due("type when all are read", x.type(), 0);
        Check.due("feed behind it", x.feed(1, 6), 1);
    }

    private static void typeBeyondTheEnd() {
        Sentence.of(5, "Throws IllegalStateException when that would be more than 65536.");
        HartBoard x = withTape(65536);
        Check.due("type of a full tape", x.type(), 65536);
        Check.due("type of nothing behind it", x.type(), 65536);
        x.feed(1, 7);
        Check.dueIllegalState("one byte too many", x::type);
        Check.due("the tape stays", x.look(6), 1);
        Check.due("INPUT stays", x.look(1), 65536);
        x.order(Code.MTVEC, Steps.TO_MACHINE);
        Steps.loaded(x, 4, Steps.LINE);
        x.feed(1, 8);
        Check.dueIllegalState("two bytes, room for one", x::type);
        Steps.loaded(x, 4, Steps.LINE);
        Check.due("two bytes, room for two", x.type(), 65536);
    }

    private static void poke() {
        Sentence.of(6, "n bytes (1 .. 8) of v are written into RAM at a physical address, lowest first;");
        for (int n = 1; n <= 8; n++) {
            for (int at = 0; at < 8; at++) {
                HartBoard x = new HartBoard(16);
                x.poke(RAM + 64, 8, -1);
                x.poke(RAM + 72, 8, -1);
                x.poke(RAM + 64 + at, n, 0x0807060504030201L);
                for (int k = 0; k < 16; k++) {
                    int want = k >= at && k < at + n ? k - at + 1 : 255;
                    Check.due("byte " + k + " behind a poke of " + n + " at " + at, x.peek(RAM + 64 + k) & 255, want);
                }
            }
        }
        HartBoard x = Steps.board();
        x.poke(END - 8, 8, 1);
        x.poke(END - 1, 1, 2);
        Check.due("the last bytes", x.peek(END - 8), 0x0200000000000001L);
        x.order(Code.SATP, 8L << 60);
        x.lower(0);
        x.poke(RAM, 1, 3);
        Check.due("an address that is physical at any privilege", x.peek(RAM), 3);
        Sentence.of(6, "the reservation stays.");
        HartBoard y = Steps.board();
        Steps.reserved(y, 3, Steps.DATA);
        y.poke(Steps.DATA, 8, 9);
        Check.due("the reservation stays", y.look(7), 8);
        Steps.done("a store of what was reserved", y, Code.atomic(3, 3, 5, 6, 0));
        Check.due("it is the same reservation", y.get(5), 0);
    }

    private static void pokeOfWrongSize() {
        Sentence.of(6, "Throws IllegalArgumentException when n is not as said;");
        HartBoard x = new HartBoard(16);
        for (int n : new int[] {0, 9, -1, -8, 16, Integer.MIN_VALUE, Integer.MAX_VALUE}) {
            Check.dueIllegalArgument("poke of " + n, () -> x.poke(RAM, n, -1));
        }
        Check.due("nothing is written", x.peek(RAM), 0);
    }

    private static void pokeOutside() {
        Sentence.of(6, "NoSuchElementException when not all of them lie in RAM.");
        for (int n = 1; n <= 8; n++) {
            int size = n;
            HartBoard x = new HartBoard(16);
            Check.dueNoSuchElement("a poke over the end", () -> x.poke(END - size + 1, size, -1));
            Check.dueNoSuchElement("a poke over the begin", () -> x.poke(RAM - 1, size, -1));
            Check.dueNoSuchElement("a poke behind the end", () -> x.poke(END, size, -1));
            Check.dueNoSuchElement("a poke at 0", () -> x.poke(0, size, -1));
            Check.dueNoSuchElement("a poke before 2^64", () -> x.poke(-size, size, -1));
            Check.dueNoSuchElement("a poke before 2^63", () -> x.poke(Long.MAX_VALUE, size, -1));
            Check.dueNoSuchElement("a poke 2^63 above RAM", () -> x.poke(RAM + Long.MIN_VALUE, size, -1));
            Check.dueNoSuchElement("a poke 2^32 above RAM", () -> x.poke(RAM + (1L << 32), size, -1));
            Check.dueNoSuchElement("a poke to the line", () -> x.poke(Steps.LINE, size, -1));
            Check.due("the last bytes stay", x.peek(END - 8), 0);
            Check.due("the first bytes stay", x.peek(RAM), 0);
            Check.due("no OUTPUT", x.look(2), 0);
            x.poke(END - n, n, -1);
            x.poke(RAM, n, -1);
            Check.due("the last byte", x.peek(END - 8) >>> 56, 255);
            Check.due("the first byte", x.peek(RAM) & 255, 255);
        }
    }

    private static void peek() {
        Sentence.of(7, "Eight bytes of RAM at a physical address.");
        HartBoard x = new HartBoard(16);
        x.poke(RAM, 8, 0x0807060504030201L);
        x.poke(RAM + 8, 8, 0x100f0e0d0c0b0a09L);
        for (int at = 0; at <= 8; at++) {
            Check.due("peek at " + at, x.peek(RAM + at), 0x0807060504030201L + at * 0x0101010101010101L);
        }
        x.poke(END - 8, 8, -2);
        Check.due("the last eight", x.peek(END - 8), -2);
        x.order(Code.SATP, 8L << 60);
        x.lower(0);
        Check.due("an address that is physical at any privilege", x.peek(RAM), 0x0807060504030201L);
    }

    private static void peekOutside() {
        Sentence.of(7, "Throws NoSuchElementException when not all of them lie in RAM.");
        HartBoard x = new HartBoard(16);
        long[] wrong = {0, 1, -1, -8, -7, Long.MIN_VALUE, Long.MAX_VALUE, Long.MAX_VALUE - 7, RAM - 1, RAM - 7, RAM - 8,
            END - 7,
            END - 1, END, END + 8, RAM + Long.MIN_VALUE, RAM + (1L << 32), -RAM, Steps.LINE, Steps.SOFT, Steps.COMPARE,
                Steps.TIME,
            Steps.CONTROLLER};
        for (long address : wrong) {
            Check.dueNoSuchElement("peek at " + Steps.hex(address), () -> x.peek(address));
        }
        Check.due("the first eight", x.peek(RAM), 0);
        Check.due("the last eight", x.peek(END - 8), 0);
    }

    private static void set() {
        Sentence.of(8, "A register (0 .. 31; 32 PC) becomes v");
        HartBoard x = new HartBoard(16);
        for (int k = 1; k <= 32; k++) {
            x.set(k, -2L - 2 * k);
        }
        for (int k = 1; k <= 32; k++) {
            Check.due("register " + k, x.get(k), -2L - 2 * k);
        }
        x.set(31, Long.MIN_VALUE);
        Check.due("x31 of the least", x.get(31), Long.MIN_VALUE);
        x.set(1, Long.MAX_VALUE);
        Check.due("x1 of the greatest", x.get(1), Long.MAX_VALUE);
        Sentence.of(8, "(x0 stays 0; bit 0 of PC is 0).");
        for (long v : new long[] {1, -1, 2, Long.MIN_VALUE, Long.MAX_VALUE, RAM + 1}) {
            x.set(0, v);
            Check.due("x0 of " + v, x.get(0), 0);
            x.set(32, v);
            Check.due("PC of " + v, x.get(32), v & ~1L);
        }
    }

    private static void setOfNone() {
        Sentence.of(8, "Throws IllegalArgumentException when there is none.");
        HartBoard x = new HartBoard(16);
        for (int register : new int[] {-1, 33, 64, -32, Integer.MIN_VALUE, Integer.MAX_VALUE}) {
            Check.dueIllegalArgument("set " + register, () -> x.set(register, 1));
        }
        for (int k = 0; k < 32; k++) {
            Check.due("x" + k + " stays", x.get(k), 0);
        }
        Check.due("PC stays", x.get(32), RAM);
    }

    private static void get() {
        Sentence.of(9, "A register, or PC (32).");
        HartBoard x = new HartBoard(16);
        x.set(1, 11);
        x.set(31, 131);
        x.set(32, 1000);
        Check.due("x0", x.get(0), 0);
        Check.due("x1", x.get(1), 11);
        Check.due("x2", x.get(2), 0);
        Check.due("x31", x.get(31), 131);
        Check.due("PC", x.get(32), 1000);
    }

    private static void getOfNone() {
        Sentence.of(9, "Throws IllegalArgumentException when there is none.");
        HartBoard x = new HartBoard(16);
        for (int register : new int[] {-1, 33, 64, -32, Integer.MIN_VALUE, Integer.MAX_VALUE}) {
            Check.dueIllegalArgument("get " + register, () -> x.get(register));
        }
    }

    private static void lower() {
        Sentence.of(10, "PRIVILEGE becomes p");
        HartBoard low = Steps.board();
        for (int p : new int[] {0, 3, 1, 0, 1, 3}) {
            low.lower(p);
            Check.due("PRIVILEGE", low.look(0), p);
        }
        low.lower(0);
        Steps.illegal(low, Code.control(2, 5, 0xc00, 0));
        Sentence.of(10, "(the reservation stays, as with order()).");
        HartBoard x = Steps.board();
        Steps.reserved(x, 3, Steps.DATA);
        for (int p : new int[] {0, 3, 1, 0, 1, 3}) {
            x.lower(p);
            Check.due("the reservation stays", x.look(7), 8);
        }
        for (int number : NUMBERS) {
            x.order(number, -1);
            x.order(number, 0);
        }
        Check.due("it stays with order()", x.look(7), 8);
        Steps.done("a store of what was reserved", x, Code.atomic(3, 3, 5, 6, 0));
        Check.due("it is the same reservation", x.get(5), 0);
    }

    private static void lowerToNone() {
        Sentence.of(10, "Throws IllegalArgumentException when it is not 0, 1 or 3.");
        for (int before : Steps.PRIVILEGES) {
            HartBoard x = new HartBoard(16);
            x.lower(before);
            for (int p : new int[] {2, 4, -1, 5, 7, Integer.MIN_VALUE, Integer.MAX_VALUE}) {
                Check.dueIllegalArgument("lower to " + p, () -> x.lower(p));
                Check.due("PRIVILEGE stays", x.look(0), before);
            }
        }
    }

    private static void control() {
        Sentence.of(11, "A control register as the machine would read it (0xc00 to 0xc02, too).");
        HartBoard x = Steps.board();
        x.order(Code.MSTATUS, 1 << 20);
        x.order(0x340, -5);
        x.order(0x180, 7);
        for (int number : NUMBERS) {
            long here = x.control(number);
            Steps.done("a control instruction of the machine", x, Code.control(2, 5, number, 0));
            boolean counts = number >= 0xb00 && number <= 0xc02;
            Check.due("control " + Steps.hex(number), here, x.get(5));
            x.lower(0);
            Check.due("at privilege 0 as well, " + Steps.hex(number), x.control(number), counts ? here + 1 : here);
            x.lower(3);
        }
    }

    private static boolean told(int number) {
        for (int one : NUMBERS) {
            if (one == number) {
                return true;
            }
        }
        return false;
    }

    private static void controlOfNone() {
        Sentence.of(11, "Throws IllegalArgumentException when there is none of that number.");
        HartBoard x = null;
        for (int number = -64; number < 0x1400; number++) {
            x = x == null || number % 256 == 0 ? new HartBoard(16) : x;
            if (!told(number)) {
                HartBoard board = x;
                int wrong = number;
                Check.dueIllegalArgument("control " + number, () -> board.control(wrong));
            }
        }
        HartBoard y = new HartBoard(16);
        for (int number : new int[] {0x10300, 0x300 - 0x1000, Integer.MIN_VALUE + 0x300, Integer.MIN_VALUE,
            Integer.MAX_VALUE}) {
            Check.dueIllegalArgument("control " + number, () -> y.control(number));
        }
    }

    private static void order() {
        Sentence.of(12, "A control register is written as the machine would write it; one that is not written stays.");
        long[] values = {-1, 0, 0x123456789abcdef1L, 8L << 60 | 5, 2 << 11};
        for (int number : NUMBERS) {
            HartBoard x = new HartBoard(16);
            HartBoard y = new HartBoard(16);
            for (long v : values) {
                x.order(number, v);
                y.set(6, v);
                boolean mayWrite = number >> 10 != 3;
                Check.due("the machine's own write of " + Steps.hex(number),
                    Code.one(y, Code.control(1, 0, number, 6)), mayWrite ? 1 : 0);
                boolean counts = number == 0xb00 || number == 0xb02;
                if (mayWrite) {
                    Check.due("order of " + Steps.hex(number), x.control(number), y.control(number) - (counts ? 1 : 0));
                }
            }
        }
        for (int number : new int[] {0x301, 0xc00, 0xc01, 0xc02, 0xf11, 0xf12, 0xf13, 0xf14}) {
            HartBoard x = new HartBoard(16);
            long before = x.control(number);
            x.order(number, before ^ -1);
            Check.due(Steps.hex(number) + " stays", x.control(number), before);
        }
        HartBoard low = new HartBoard(16);
        low.lower(0);
        low.order(0x340, 5);
        Check.due("at privilege 0 as well", low.control(0x340), 5);
    }

    private static void orderOfNone() {
        Sentence.of(12, "Throws IllegalArgumentException when there is none of that number.");
        HartBoard x = null;
        for (int number = -64; number < 0x1400; number++) {
            x = x == null || number % 256 == 0 ? new HartBoard(16) : x;
            if (!told(number)) {
                HartBoard board = x;
                int wrong = number;
                Check.dueIllegalArgument("order " + number, () -> board.order(wrong, -1));
            }
        }
        HartBoard y = new HartBoard(16);
        for (int number : new int[] {0x10340, 0x340 - 0x1000, Integer.MIN_VALUE + 0x340, Integer.MIN_VALUE,
            Integer.MAX_VALUE}) {
            Check.dueIllegalArgument("order " + number, () -> y.order(number, -1));
        }
        Check.due("0x340 stays", y.control(0x340), 0);
    }

    private static void raise() {
        Sentence.of(13, "Source 2 .. 7 is high, or low.");
        for (int s = 2; s <= 7; s++) {
            HartBoard x = Steps.board();
            x.raise(s, false);
            Check.due("low, it is not pending", x.look(9), 0);
            x.raise(s, true);
            Check.due("high, it is pending", x.look(9), 1 << s);
            Steps.stored(x, 2, Steps.priority(s), 1);
            Steps.stored(x, 2, Steps.enable(0), 0xfe);
            Check.due("it is claimed", Steps.loaded(x, 2, Steps.claim(0)), s);
            x.raise(s, false);
            Steps.stored(x, 2, Steps.claim(0), s);
            Check.due("low again, it is pending no more", x.look(9), 0);
            x.step(1);
            Check.due("nor behind a step", x.look(9), 0);
        }
    }

    private static void raiseOfNone() {
        Sentence.of(13, "Throws IllegalArgumentException for another one.");
        HartBoard x = new HartBoard(16);
        for (int s : new int[] {1, 0, 8, -1, 9, 32 + 2, Integer.MIN_VALUE, Integer.MAX_VALUE}) {
            Check.dueIllegalArgument("raise " + s, () -> x.raise(s, true));
            Check.dueIllegalArgument("raise " + s + " to low", () -> x.raise(s, false));
        }
        Check.due("nothing is pending", x.look(9), 0);
    }

    private static void step() {
        Sentence.of(14, "n steps (0 .. 4096): how many of them were no traps and no interrupts.");
        HartBoard x = Steps.board();
        Code.begin(x, RAM, Code.addi(5, 5, 1), Code.jal(0, -4));
        Check.due("no step", x.step(0), 0);
        Check.due("CYCLE without a step", x.control(0xb00), 0);
        Check.due("one step", x.step(1), 1);
        Check.due("x5", x.get(5), 1);
        Check.due("4096 steps", x.step(4096), 4096);
        Check.due("x5 behind them", x.get(5), 2049);
        Check.due("CYCLE", x.control(0xb00), 4097);
        HartBoard y = Steps.board();
        Check.due("traps alone", y.step(5), 0);
        Check.due("CYCLE with traps", y.control(0xb00), 5);
        HartBoard z = Steps.board();
        Code.put(z, Steps.TO_MACHINE, Code.addi(5, 5, 1), 0x73);
        Code.begin(z, RAM, Code.addi(5, 5, 1));
        z.order(Code.MIE, 2);
        z.order(Code.MIP, 2);
        z.order(Code.MSTATUS, 8);
        Check.due("an interrupt, two of one kind, two calls", z.step(5), 2);
        Check.due("interrupts", z.look(4), 1);
        Check.due("traps", z.look(3), 2);
    }

    private static void stepOfWrongNumber() {
        Sentence.of(14, "Throws IllegalArgumentException when n is not as said.");
        HartBoard x = new HartBoard(16);
        for (int n : new int[] {-1, 4097, -4096, 8192, Integer.MIN_VALUE, Integer.MAX_VALUE}) {
            Check.dueIllegalArgument("step of " + n, () -> x.step(n));
        }
        Check.due("no step was done", x.control(0xb00), 0);
        Check.due("no trap", x.look(3), 0);
    }

    private static void translate() {
        Sentence.of(15, "Where an address would be translated to for a kind of access (0 fetch, 1 load, 2 store) as things"
            + " are: the physical address;");
        HartBoard x = Steps.board(1);
        long root = RAM + 0x4000;
        x.order(Code.SATP, 8L << 60 | root / 4096);
        // Leaves of 2^30 bytes: X alone, R alone, R and W.
        long[] flags = {0x49, 0x43, 0xc7};
        for (int k = 0; k < 3; k++) {
            x.poke(root + 8 * k, 8, (long) (k + 2) << 28 | flags[k]);
        }
        Check.due("a fetch", x.translate(5, 0), 2L << 30 | 5);
        Check.due("a load", x.translate(1L << 30, 1), 3L << 30);
        Check.due("another load", x.translate((3L << 30) - 1, 1), (5L << 30) - 1);
        Check.due("a store", x.translate(2L << 30 | 5, 2), 4L << 30 | 5);
        Sentence.of(15, "-1 - CAUSE when that faults.");
        long[][] faults = {{0, 1, -14}, {0, 2, -16}, {1, 0, -13}, {1, 2, -16}, {2, 0, -13}, {3, 0, -13}, {3, 1, -14},
            {3, 2, -16}};
        for (long[] row : faults) {
            Check.due("page " + row[0] + ", kind " + row[1], x.translate(row[0] << 30 | 5, (int) row[1]), row[2]);
        }
        x.order(Code.SATP, 8L << 60);
        for (int kind = 0; kind < 3; kind++) {
            Check.due("ROOT outside of RAM, kind " + kind, x.translate(0, kind), new long[] {-2, -6, -8}[kind]);
        }
        Check.due("no trap is counted", x.look(3), 0);
        Check.due("no CAUSE is kept", x.look(5), -1);
    }

    private static void translateWithout() {
        Sentence.of(15, "(What is there is not asked;");
        HartBoard x = Steps.board(1);
        long root = RAM + 0x4000;
        x.poke(root, 8, 0x30L << 28 | 0xcf);
        x.order(Code.SATP, 8L << 60 | root / 4096);
        for (int kind = 0; kind < 3; kind++) {
            Check.due("a place where nothing is", x.translate(7, kind), 0x30L << 30 | 7);
        }
        Sentence.of(15, "without translation the address itself, whatever it is, also one that looks like a fault.)");
        long[] addresses = {0, 1, -1, -2, -6, -8, -13, -14, -16, Long.MIN_VALUE, Long.MAX_VALUE, RAM, END, Steps.LINE};
        HartBoard y = Steps.board(1);
        x.lower(3);
        for (long v : addresses) {
            for (int kind = 0; kind < 3; kind++) {
                Check.due("MODE 0, " + v, y.translate(v, kind), v);
                Check.due("privilege 3, " + v, x.translate(v, kind), v);
            }
        }
    }

    private static void translateOfNoKind() {
        Sentence.of(15, "Throws IllegalArgumentException when there is no such kind.");
        HartBoard x = new HartBoard(16);
        for (int kind : new int[] {-1, 3, 4, Integer.MIN_VALUE, Integer.MAX_VALUE}) {
            Check.dueIllegalArgument("kind " + kind, () -> x.translate(RAM, kind));
            Check.dueIllegalArgument("kind " + kind + " of a strange address", () -> x.translate(-1, kind));
        }
    }

    /** A board on which no answer of look is the one of a new board. */
    private static HartBoard busy() {
        HartBoard x = new HartBoard(33);
        x.order(Code.MTVEC, Steps.TO_MACHINE);
        Steps.stored(x, 0, Steps.LINE, 0x181);
        Steps.stored(x, 0, Steps.LINE, 0x42);
        x.feed(7, 0x07060504030201L);
        x.type();
        x.feed(5, 1);
        x.raise(2, true);
        x.raise(7, true);
        Steps.stored(x, 2, Steps.priority(7), 1);
        Steps.stored(x, 2, Steps.enable(0), 0x80);
        Steps.loaded(x, 2, Steps.claim(0));
        x.order(Code.MIE, 0x20);
        x.order(Code.MIP, 0x20);
        for (int k = 0; k < 3; k++) {
            x.lower(1);
            x.step(1);
        }
        x.order(Code.MIE, 0);
        Steps.illegal(x, 0);
        x.lower(1);
        Steps.illegal(x, 0);
        x.order(Code.MIE, 0x20);
        x.lower(0);
        x.step(1);
        x.order(Code.MIE, 0);
        Steps.reserved(x, 2, Steps.DATA);
        x.lower(1);
        return x;
    }

    /** What look answers for these at first, and on the board that is busy. */
    private static void dueLooks(int from, int to) {
        int[] first = {3, 0, 0, 0, 0, -1, 0, 0, 16, 0, 0};
        int[] later = {1, 7, 2, 2, 4, 64 + 5, 5, 4, 33, 1 << 2, 1 << 7};
        for (int what = from; what <= to; what++) {
            Check.due("look(" + what + ") at first", new HartBoard(16).look(what), first[what]);
            Check.due("look(" + what + ") later", busy().look(what), later[what]);
        }
    }

    private static void look() {
        Sentence.of(16, "0 PRIVILEGE, 1 bytes of INPUT that are left, 2 bytes of OUTPUT,");
        dueLooks(0, 2);
        Sentence.of(16, "3 traps since the beginning (without interrupts), 4 interrupts taken,");
        dueLooks(3, 4);
        Sentence.of(16, "5 the CAUSE of the latest of both (-1 before; of an interrupt 64 + i),");
        dueLooks(5, 5);
        HartBoard x = busy();
        x.lower(3);
        Steps.illegal(x, 0);
        Check.due("the CAUSE of a trap behind an interrupt", x.look(5), 2);
        Sentence.of(16, "6 bytes of the tape,");
        dueLooks(6, 6);
        Sentence.of(16, "7 the size of the reservation (0 for none),");
        dueLooks(7, 7);
        Check.due("none behind a trap", x.look(7), 0);
        Steps.reserved(x, 3, Steps.DATA);
        Check.due("of eight", x.look(7), 8);
        Sentence.of(16, "8 PAGES, 9 pending sources (bit s), 10 claimed ones.");
        dueLooks(8, 10);
    }

    private static void lookOfNone() {
        Sentence.of(16, "Throws IllegalArgumentException for another what.");
        HartBoard x = new HartBoard(16);
        for (int what : new int[] {-1, 11, 12, 16, Integer.MIN_VALUE, Integer.MAX_VALUE}) {
            Check.dueIllegalArgument("look at " + what, () -> x.look(what));
        }
    }

    private static void out() {
        Sentence.of(17, "Byte k of OUTPUT, 0 .. 255.");
        HartBoard x = Steps.board();
        long[] written = {0, 0x7f, 0x80, 0xff, -1, 0x100, 0x1fe};
        for (long v : written) {
            Steps.stored(x, 0, Steps.LINE, v);
        }
        for (int k = 0; k < written.length; k++) {
            Check.due("byte " + k, x.out(k), written[k] & 255);
        }
        Check.due("byte 0 again", x.out(0), 0);
        Check.due("OUTPUT stays", x.look(2), written.length);
    }

    private static void outOfNone() {
        Sentence.of(17, "Throws NoSuchElementException when there is none.");
        HartBoard x = Steps.board();
        Check.dueNoSuchElement("byte 0 of no OUTPUT", () -> x.out(0));
        Steps.stored(x, 0, Steps.LINE, 5);
        for (int k : new int[] {1, 2, -1, 4096, 65536, Integer.MIN_VALUE, Integer.MAX_VALUE}) {
            Check.dueNoSuchElement("byte " + k + " of one", () -> x.out(k));
        }
        Check.due("byte 0 of one", x.out(0), 5);
        HartBoard full = Steps.board();
        full.set(6, Steps.LINE);
        Code.begin(full, RAM, Code.store(0, 7, 6, 0), Code.jal(0, -4));
        full.step(4096);
        full.step(4096);
        Check.due("the last byte of a full one", full.out(4095), 0);
        Check.dueNoSuchElement("the byte behind it", () -> full.out(4096));
    }

    private static String state(HartBoard x) {
        StringBuilder all = new StringBuilder();
        for (int k = 0; k <= 32; k++) {
            all.append(x.get(k)).append(' ');
        }
        for (int number : NUMBERS) {
            all.append(x.control(number)).append(' ');
        }
        for (int what = 0; what <= 10; what++) {
            all.append(x.look(what)).append(' ');
        }
        for (long address : new long[] {RAM, Steps.DATA, RAM + 33 * 4096 - 8}) {
            all.append(x.peek(address)).append(' ');
        }
        return all.append(x.out(0)).append(' ').append(x.out(1)).toString();
    }

    private interface Refused {
        void on(HartBoard x);
    }

    private static void severalExceptions() {
        Sentence.of(6, "Of several exceptions", "Of several exceptions that hold the one listed first is thrown;");
        HartBoard full = withTape(65536);
        Check.dueIllegalArgument("a feed of 9 onto a full tape", () -> full.feed(9, 1));
        Check.dueIllegalArgument("a feed of 0 onto a full tape", () -> full.feed(0, 1));
        HartBoard x = new HartBoard(16);
        Check.dueIllegalArgument("a poke of 9 outside of RAM", () -> x.poke(0, 9, 1));
        Check.dueIllegalArgument("a poke of 0 outside of RAM", () -> x.poke(END, 0, 1));
    }

    private static void refusedCalls() {
        Sentence.of(14, "Of several exceptions", "a call that throws changes nothing.");
        long end = RAM + 33 * 4096;
        Refused[] calls = {x -> x.feed(0, -1), x -> x.feed(9, -1), x -> x.poke(RAM, 0, -1), x -> x.poke(RAM, 9, -1),
            x -> x.poke(end - 1, 2, -1), x -> x.poke(end - 7, 8, -1), x -> x.poke(RAM - 1, 2, -1), x -> x.peek(end - 7),
            x -> x.set(-1, 9), x -> x.set(33, 9), x -> x.get(33), x -> x.lower(2), x -> x.control(0x307),
            x -> x.order(0x307, -1), x -> x.raise(1, true), x -> x.raise(8, true), x -> x.raise(0, false), x -> x.step(-1),
            x -> x.step(4097), x -> x.translate(0, 3), x -> x.look(11), x -> x.out(2), x -> x.out(-1)};
        for (int k = 0; k < calls.length; k++) {
            HartBoard x = busy();
            String before = state(x);
            boolean threw = false;
            try {
                calls[k].on(x);
            } catch (IllegalArgumentException | java.util.NoSuchElementException e) {
                threw = true;
            }
            Check.due("refused call " + k + " throws", threw);
            Check.due("refused call " + k + " changes nothing", state(x).equals(before));
        }
    }

    private static void ownMemory() {
        Sentence.of(1, "Of several exceptions", "All memory is the class's own.");
        HartBoard x = busy();
        HartBoard y = new HartBoard(33);
        String before = state(withTwoBytes(y));
        x.poke(RAM, 8, -1);
        x.set(9, 9);
        x.order(0x340, 9);
        x.type();
        x.raise(4, true);
        x.step(7);
        Check.due("one object does nothing to another", state(y).equals(before));
    }

    private static HartBoard withTwoBytes(HartBoard y) {
        Steps.stored(y, 0, Steps.LINE, 1);
        Steps.stored(y, 0, Steps.LINE, 2);
        return y;
    }
}
