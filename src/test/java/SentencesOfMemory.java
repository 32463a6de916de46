/** What stands under 'Terms' of words, privilege and physical memory. */
final class SentencesOfMemory {
    private static final long RAM = Steps.RAM;
    private static final long END = Steps.END;
    private static final String WORDS = "WORDS";
    private static final String PRIVILEGE = "PRIVILEGE";
    private static final String MEMORY = "PHYSICAL MEMORY";

    private SentencesOfMemory() {
    }

    static void run() {
        registers();
        wrapping();
        signs();
        unsigned();
        lowestFirst();
        privilegeAtFirst();
        registersAtFirst();
        memoryAtFirst();
        ram();
        soft();
        compare();
        time();
        timerSizes();
        controllerSizes();
        priorities();
        pending();
        enables();
        thresholds();
        claims();
        lineSizes();
        input();
        output();
        lineEnable();
        lineStatus();
        lineOthers();
        notWritten();
        accessFaults();
        lineSource();
        otherSources();
        settling();
        claiming();
        completing();
        calling();
    }

    private static void registers() {
        Sentence.of(8, WORDS, "Registers x0 .. x31 and PC have 64 bits; x0 is always 0.");
        HartBoard x = Steps.board();
        for (int k = 1; k < 32; k++) {
            x.set(k, -1);
            Check.due("x" + k, x.get(k), -1);
        }
        x.set(6, Steps.DATA);
        x.poke(Steps.DATA, 8, -1);
        int[] all = {Code.addi(0, 7, 5), Code.load(3, 0, 6, 0), 0xfffff037, 0xfffff017, Code.r(0x33, 0, 0, 0, 7, 7),
            Code.r(0x3b, 0, 0, 0, 7, 7), Code.i(0x1b, 0, 0, 7, 5), Code.atomic(2, 3, 0, 6, 0), Code.atomic(8, 3, 0, 6, 7),
            Code.atomic(3, 2, 0, 6, 7), Code.control(2, 0, 0x301, 0), Code.jal(0, 8), Code.jalr(0, 6, 0)};
        for (int w : all) {
            Steps.done("an instruction with rd 0", x, w);
            Check.due("x0 behind " + Steps.hex(w), x.get(0), 0);
        }
        x.set(0, -1);
        Steps.done("an instruction of x0", x, Code.addi(5, 0, 7));
        Check.due("x0 + 7", x.get(5), 7);
        x.set(6, Long.MIN_VALUE);
        Steps.done("a jump far away", x, Code.jalr(0, 6, 0));
        Check.due("PC has 64 bits", x.get(32), Long.MIN_VALUE);
    }

    private static void wrapping() {
        Sentence.of(14, WORDS, "Arithmetic wraps.");
        HartBoard x = Steps.board();
        x.set(6, Long.MAX_VALUE);
        Steps.done("a sum", x, Code.addi(5, 6, 1));
        Check.due("the greatest and 1", x.get(5), Long.MIN_VALUE);
        x.set(6, -1);
        Steps.done("a sum", x, Code.addi(5, 6, 1));
        Check.due("2^64 - 1 and 1", x.get(5), 0);
        x.set(6, Long.MIN_VALUE);
        x.set(7, 1);
        Steps.done("a difference", x, Code.r(0x33, 0, 32, 5, 6, 7));
        Check.due("the least without 1", x.get(5), Long.MAX_VALUE);
        x.set(6, 8);
        Steps.trapsOf("an address below 0", x, Code.load(3, 5, 6, -16), 5, -8);
        x.set(6, -8);
        Steps.trapsOf("an address above 2^64", x, Code.store(3, 5, 6, 16), 7, 8);
        x.set(6, -8);
        Steps.done("a jump above 2^64", x, Code.jalr(0, 6, 16));
        Check.due("PC around the end", x.get(32), 8);
        Steps.done("a jump below 0", x, Code.jalr(0, 0, -16));
        Check.due("PC around the begin", x.get(32), -16);
        pcWraps(Code.addi(5, 0, 1), -4, 0);
        pcWraps(Code.jal(5, 16), -4, 12);
        pcWraps(Code.branch(0, 0, 0, 18), -4, 14);
        pcWraps(0x4505, -2, 0);
    }

    /** The last page of virtual addresses is at DATA: an instruction there goes on at 0. */
    private static void pcWraps(int w, long from, long want) {
        HartBoard x = Steps.board(1);
        long root = RAM + 0x4000;
        x.poke(root + 8 * 511, 8, (root + 0x1000) / 4096 << 10 | 1);
        x.poke(root + 0x1000 + 8 * 511, 8, (root + 0x2000) / 4096 << 10 | 1);
        x.poke(root + 0x2000 + 8 * 511, 8, Steps.DATA / 4096 << 10 | 0xcf);
        x.order(Code.SATP, 8L << 60 | root / 4096);
        x.poke(Steps.DATA + 4096 + from, (int) -from, w);
        x.set(32, from);
        Check.due(Steps.hex(w) + " at the last address", x.step(1), 1);
        Check.due("PC behind " + Steps.hex(w), x.get(32), want);
    }

    private static void signs() {
        Sentence.of(14, WORDS, "SX(v, n): the lowest n bits of v, with the highest of these in all bits above.");
        HartBoard x = Steps.board();
        long[][] rows = {{0x7ff, 2047}, {0x800, -2048}, {0xfff, -1}, {0, 0}};
        for (long[] row : rows) {
            Steps.done("a constant", x, Code.addi(5, 0, (int) row[0]));
            Check.due("SX of " + row[0] + ", 12", x.get(5), row[1]);
        }
        x.poke(Steps.DATA, 8, 0x7fff7f80807fL);
        Check.due("SX of 0x7f, 8", Steps.loaded(x, 0, Steps.DATA), 0x7f);
        Check.due("SX of 0x80, 8", Steps.loaded(x, 0, Steps.DATA + 1), -128);
        Check.due("SX of 0x7f80, 16", Steps.loaded(x, 1, Steps.DATA + 2), 0x7f80);
        Check.due("SX of 0x807f, 16", Steps.loaded(x, 1, Steps.DATA), -0x8000 + 0x7f);
    }

    private static void unsigned() {
        Sentence.of(14, WORDS, "UNSIGNED comparisons take 64 bits as 0 .. 2^64 - 1.");
        long[][] rows = {{0, -1, 1}, {-1, 0, 0}, {Long.MAX_VALUE, Long.MIN_VALUE, 1}, {Long.MIN_VALUE, Long.MAX_VALUE, 0},
            {-2, -1, 1}, {-1, -1, 0}, {0, 0, 0}, {0, 1, 1}};
        for (long[] row : rows) {
            HartBoard x = Steps.board();
            x.set(6, row[0]);
            x.set(7, row[1]);
            Steps.done("a comparison", x, Code.r(0x33, 3, 0, 5, 6, 7));
            Check.due(row[0] + " below " + row[1], x.get(5), row[2]);
        }
    }

    private static void lowestFirst() {
        Sentence.of(14, WORDS, "Bytes lie in memory lowest first.");
        HartBoard x = Steps.board();
        Steps.stored(x, 3, Steps.DATA, 0x0807060504030201L);
        for (int k = 0; k < 8; k++) {
            Check.due("byte " + k, Steps.loaded(x, 4, Steps.DATA + k), k + 1);
        }
        Check.due("two of them", Steps.loaded(x, 5, Steps.DATA + 6), 0x0807);
        Check.due("four of them", Steps.loaded(x, 6, Steps.DATA + 4), 0x08070605);
        Check.due("peek", x.peek(Steps.DATA), 0x0807060504030201L);
    }

    private static void privilegeAtFirst() {
        Sentence.of(1, PRIVILEGE, "PRIVILEGE is 0 (user), 1 (supervisor), 3 (machine; at first).");
        HartBoard x = new HartBoard(16);
        Check.due("PRIVILEGE at first", x.look(0), 3);
        Check.due("what the machine alone may", Code.one(x, Code.control(2, 5, Code.MSTATUS, 0)), 1);
        int[] want = {0, 1, 2};
        for (int k = 0; k < 3; k++) {
            // Numbers of the user, the supervisor, the machine: each may those below its own.
            HartBoard y = Steps.board();
            y.order(0x306, 7);
            y.order(0x106, 7);
            int may = 0;
            for (int number : new int[] {0xc00, 0x140, 0x340}) {
                y.lower(Steps.PRIVILEGES[k]);
                may += Code.one(y, Code.control(2, 5, number, 0));
            }
            Check.due("what privilege " + Steps.PRIVILEGES[k] + " may", may - 1, want[k]);
        }
    }

    private static void registersAtFirst() {
        Sentence.of(1, PRIVILEGE, "PC is 0x80000000 at first, all registers 0.");
        HartBoard x = new HartBoard(64);
        Check.due("PC", x.get(32), 0x80000000L);
        for (int k = 0; k < 32; k++) {
            Check.due("x" + k, x.get(k), 0);
        }
    }

    private static void memoryAtFirst() {
        Sentence.of(1, MEMORY, "(0 at first, where nothing else is told; nothing pending, claimed or reserved)");
        HartBoard x = Steps.board();
        Check.due("the reservation", x.look(7), 0);
        Check.due("pending", x.look(9), 0);
        Check.due("claimed", x.look(10), 0);
        x.step(1);
        Check.due("pending behind a step", x.look(9), 0);
        Check.due("SOFT", Steps.loaded(x, 2, Steps.SOFT), 0);
        for (int s = 1; s <= 7; s++) {
            Check.due("PRIORITY", Steps.loaded(x, 2, Steps.priority(s)), 0);
        }
        for (int c = 0; c < 2; c++) {
            Check.due("ENABLE", Steps.loaded(x, 2, Steps.enable(c)), 0);
            Check.due("THRESHOLD", Steps.loaded(x, 2, Steps.threshold(c)), 0);
            Check.due("CLAIM", Steps.loaded(x, 2, Steps.claim(c)), 0);
        }
        Check.due("LINE's ENABLE", Steps.loaded(x, 4, Steps.LINE + 1), 0);
        Check.due("INPUT", x.look(1), 0);
        Check.due("OUTPUT", x.look(2), 0);
        x.set(6, 0);
        Steps.trapsOf("a store at 0 without a reservation", x, Code.atomic(3, 2, 5, 6, 7), 7, 0);
        x.set(6, RAM);
        Steps.done("a store in RAM without one", x, Code.atomic(3, 2, 5, 6, 7));
        Check.due("it is not done", x.get(5), 1);
    }

    private static void ram() {
        Sentence.of(1, MEMORY, "RAM: PAGES * 4096 bytes (PAGES 16 .. 64) from 0x80000000 on, 0 at first.");
        for (int pages : new int[] {16, 17, 40, 63, 64}) {
            HartBoard x = new HartBoard(pages);
            x.order(Code.MTVEC, Steps.TO_MACHINE);
            long end = 0x80000000L + 4096L * pages;
            for (long at = RAM; at < end; at += 4096) {
                Check.due("0 at first", x.peek(at) | x.peek(at + 4088), 0);
            }
            for (int f = 0; f < 4; f++) {
                int n = 1 << f;
                Check.due("the last bytes", Steps.loaded(x, f, end - n), 0);
                Steps.stored(x, f, end - n, -1);
                Check.due("the last byte", Steps.loaded(x, 0, end - 1), -1);
                x.poke(end - 8, 8, 0);
                Steps.noAccess(x, f, end);
                Steps.noAccess(x, f, 0x80000000L - n);
            }
            Check.due("the first bytes", Steps.loaded(x, 6, RAM), Code.load(6, 5, 6, 0) & 0xffffffffL);
        }
    }

    private static void soft() {
        Sentence.of(14, MEMORY, "TIMER at 0x2000000: SOFT, 4 bytes at 0 (only bit 0 is kept);");
        HartBoard x = Steps.board();
        long[][] rows = {{-1, 1}, {-2, 0}, {1, 1}, {0, 0}, {3, 1}, {0x80000000L, 0}};
        for (long[] row : rows) {
            Steps.stored(x, 2, Steps.SOFT, row[0]);
            Check.due("SOFT", Steps.loaded(x, 2, Steps.SOFT), row[1]);
            Check.due("SOFT in MIP", x.control(Code.MIP), 8 * row[1]);
        }
        Steps.noAccess(x, 2, Steps.SOFT + 4);
        Steps.noAccess(x, 2, Steps.SOFT - 4);
        Steps.noAccess(x, 3, Steps.SOFT);
    }

    private static void compare() {
        Sentence.of(14, MEMORY, "COMPARE, 8 at 0x4000 (all bits 1 at first);");
        HartBoard x = Steps.board();
        Check.due("COMPARE at first", Steps.loaded(x, 3, Steps.COMPARE), -1);
        Check.due("its lower half", Steps.loaded(x, 6, Steps.COMPARE), 0xffffffffL);
        Check.due("its upper half", Steps.loaded(x, 2, Steps.COMPARE + 4), -1);
        Steps.stored(x, 2, Steps.COMPARE, 0x11223344);
        Check.due("the lower half written", Steps.loaded(x, 3, Steps.COMPARE), 0xffffffff11223344L);
        Steps.stored(x, 2, Steps.COMPARE + 4, 0x55667788);
        Check.due("the upper half written", Steps.loaded(x, 3, Steps.COMPARE), 0x5566778811223344L);
        Check.due("the lower half read", Steps.loaded(x, 2, Steps.COMPARE), 0x11223344);
        Check.due("the upper half read", Steps.loaded(x, 2, Steps.COMPARE + 4), 0x55667788);
        Steps.stored(x, 3, Steps.COMPARE, -5);
        Check.due("all of it written", Steps.loaded(x, 3, Steps.COMPARE), -5);
        Steps.noAccess(x, 3, Steps.COMPARE + 8);
        Steps.noAccess(x, 3, Steps.COMPARE - 8);
        Steps.noAccess(x, 2, Steps.COMPARE + 8);
        Steps.noAccess(x, 2, Steps.COMPARE - 4);
    }

    private static void time() {
        Sentence.of(14, MEMORY, "TIME, 8 at 0xbff8 (0 at first);");
        HartBoard x = Steps.board();
        Check.due("TIME at first", x.control(0xc01), 0);
        Check.due("TIME in the first step", Steps.loaded(x, 3, Steps.TIME), 0);
        Steps.stored(x, 2, Steps.TIME + 4, 0x80000000L);
        Check.due("the upper half written", Steps.loaded(x, 3, Steps.TIME), 0x8000000000000002L);
        Steps.stored(x, 2, Steps.TIME, 0x80000000L);
        Check.due("the lower half written", Steps.loaded(x, 3, Steps.TIME), 0x8000000080000001L);
        Check.due("the lower half with its sign", Steps.loaded(x, 2, Steps.TIME), 0xffffffff80000002L);
        Check.due("the upper half without one", Steps.loaded(x, 6, Steps.TIME + 4), 0x80000000L);
        Steps.stored(x, 3, Steps.TIME, 7);
        Check.due("all of it written", Steps.loaded(x, 3, Steps.TIME), 8);
        Steps.noAccess(x, 3, Steps.TIME + 8);
        Steps.noAccess(x, 3, Steps.TIME - 8);
        Steps.noAccess(x, 2, Steps.TIME + 8);
        Steps.noAccess(x, 2, Steps.TIME - 4);
    }

    private static void timerSizes() {
        Sentence.of(14, MEMORY, "it is accessed by 4 bytes, or 8, all within one of these.");
        for (long base : new long[] {Steps.SOFT, Steps.COMPARE, Steps.TIME}) {
            HartBoard x = Steps.board();
            for (int f = 0; f < 2; f++) {
                for (int at = 0; at < 8; at += 1 << f) {
                    Steps.noAccess(x, f, base + at);
                }
            }
            Steps.loadTraps(x, 4, base, 5);
            Steps.loadTraps(x, 5, base, 5);
            Steps.loaded(x, 6, base);
            Check.due("SOFT stays", x.control(Code.MIP), 0);
            Check.due("COMPARE stays", Steps.loaded(x, 3, Steps.COMPARE), -1);
        }
        HartBoard x = Steps.board();
        Steps.noAccess(x, 3, Steps.SOFT);
        Steps.loadTraps(x, 3, Steps.COMPARE + 4, 4);
        Steps.storeTraps(x, 3, Steps.TIME + 4, 6);
        Check.due("SOFT stays", x.control(Code.MIP), 0);
        Check.due("COMPARE stays", Steps.loaded(x, 3, Steps.COMPARE), -1);
    }

    private static void controllerSizes() {
        Sentence.of(14, MEMORY, "CONTROLLER at 0xc000000, by 4 bytes, at multiples of 4:");
        for (long at : new long[] {Steps.priority(2), Steps.CONTROLLER + 0x1000, Steps.enable(0), Steps.threshold(0)}) {
            HartBoard x = Steps.board();
            for (int f : new int[] {0, 1, 3}) {
                Steps.noAccess(x, f, at);
            }
            Steps.loadTraps(x, 4, at, 5);
            Steps.loadTraps(x, 5, at, 5);
            Steps.loadTraps(x, 2, at + 2, 4);
            Steps.storeTraps(x, 2, at + 1, 6);
            Steps.loaded(x, 6, at);
        }
        HartBoard x = withSource(2, 1, 0);
        Steps.noAccess(x, 0, Steps.claim(0));
        Steps.noAccess(x, 1, Steps.claim(0));
        Steps.loadTraps(x, 3, Steps.claim(0), 4);
        Check.due("nothing was claimed by that", x.look(10), 0);
    }

    private static void priorities() {
        Sentence.of(14, MEMORY, "PRIORITY of source s (1 .. 7) at 4 * s (the lowest 3 bits are kept);");
        HartBoard x = Steps.board();
        for (int s = 1; s <= 7; s++) {
            Steps.stored(x, 2, Steps.priority(s), 0xfffffff8L | s);
        }
        for (int s = 1; s <= 7; s++) {
            Check.due("PRIORITY of " + s, Steps.loaded(x, 2, Steps.priority(s)), s);
        }
        Steps.stored(x, 2, Steps.priority(7), 8);
        Check.due("bit 3 is not kept", Steps.loaded(x, 2, Steps.priority(7)), 0);
        Steps.noAccess(x, 2, Steps.priority(0));
        Steps.noAccess(x, 2, Steps.priority(8));
        Steps.noAccess(x, 2, Steps.priority(-1));
    }

    private static void pending() {
        Sentence.of(14, MEMORY, "PENDING at 0x1000 (bit s; what is written there is lost);");
        HartBoard x = Steps.board();
        long at = Steps.CONTROLLER + 0x1000;
        Check.due("nothing is pending", Steps.loaded(x, 2, at), 0);
        Steps.stored(x, 2, at, -1);
        Check.due("what is written is lost", Steps.loaded(x, 2, at), 0);
        x.raise(2, true);
        x.raise(7, true);
        Check.due("2 and 7 are pending", Steps.loaded(x, 2, at), 0x84);
        Steps.stored(x, 2, at, 0);
        Check.due("a 0 is lost, too", Steps.loaded(x, 2, at), 0x84);
        Steps.noAccess(x, 2, at + 4);
        Steps.noAccess(x, 2, at - 4);
    }

    private static void enables() {
        Sentence.of(14, MEMORY, "ENABLE of context c (0 machine, 1 supervisor) at 0x2000 + 0x80 * c (bits 1 to 7 are kept);");
        HartBoard x = Steps.board();
        Steps.stored(x, 2, Steps.enable(0), -1);
        Check.due("ENABLE of 0", Steps.loaded(x, 2, Steps.enable(0)), 0xfe);
        Check.due("ENABLE of 1 stays", Steps.loaded(x, 2, Steps.enable(1)), 0);
        Steps.stored(x, 2, Steps.enable(1), 0x181);
        Check.due("ENABLE of 1", Steps.loaded(x, 2, Steps.enable(1)), 0x80);
        Check.due("ENABLE of 0 stays", Steps.loaded(x, 2, Steps.enable(0)), 0xfe);
        Steps.stored(x, 2, Steps.enable(0), 2);
        Check.due("ENABLE of 0 again", Steps.loaded(x, 2, Steps.enable(0)), 2);
        Steps.noAccess(x, 2, Steps.enable(2));
        Steps.noAccess(x, 2, Steps.enable(-1));
        Steps.noAccess(x, 2, Steps.enable(0) + 4);
        Steps.noAccess(x, 2, Steps.enable(1) + 4);
    }

    private static void thresholds() {
        Sentence.of(14, MEMORY, "THRESHOLD of c at 0x200000 + 0x1000 * c (3 bits);");
        HartBoard x = Steps.board();
        Steps.stored(x, 2, Steps.threshold(0), -1);
        Check.due("THRESHOLD of 0", Steps.loaded(x, 2, Steps.threshold(0)), 7);
        Check.due("THRESHOLD of 1 stays", Steps.loaded(x, 2, Steps.threshold(1)), 0);
        Steps.stored(x, 2, Steps.threshold(1), 0xb);
        Check.due("THRESHOLD of 1", Steps.loaded(x, 2, Steps.threshold(1)), 3);
        Check.due("THRESHOLD of 0 stays", Steps.loaded(x, 2, Steps.threshold(0)), 7);
        Steps.noAccess(x, 2, Steps.threshold(2));
        Steps.noAccess(x, 2, Steps.threshold(-1));
    }

    private static void claims() {
        Sentence.of(14, MEMORY, "CLAIM of c 4 behind that.");
        HartBoard x = withSource(3, 5, 1);
        Check.due("CLAIM of 0, for which it is not enabled", Steps.loaded(x, 2, Steps.claim(0)), 0);
        Check.due("CLAIM of 1", Steps.loaded(x, 2, Steps.claim(1)), 3);
        Steps.stored(x, 2, Steps.claim(0), 3);
        Check.due("it stays claimed", x.look(10), 8);
        Steps.stored(x, 2, Steps.claim(1), 3);
        Check.due("claimed no more", x.look(10), 0);
        Steps.noAccess(x, 2, Steps.claim(0) + 4);
        Steps.noAccess(x, 2, Steps.claim(1) + 4);
        Steps.noAccess(x, 2, Steps.claim(2));
    }

    /** A source that is high, with its priority, enabled for one context. */
    private static HartBoard withSource(int source, int priority, int context) {
        HartBoard x = Steps.board();
        Steps.stored(x, 2, Steps.priority(source), priority);
        Steps.stored(x, 2, Steps.enable(context), 1 << source);
        x.raise(source, true);
        return x;
    }

    private static void lineSizes() {
        Sentence.of(14, MEMORY, "LINE at 0x10000000, by 1 byte, 0 .. 7:");
        HartBoard x = Steps.board();
        x.feed(8, 0x0807060504030201L);
        x.type();
        for (int at = 0; at < 8; at++) {
            Steps.loaded(x, 0, Steps.LINE + at);
            Steps.loaded(x, 4, Steps.LINE + at);
            Steps.stored(x, 0, Steps.LINE + at, 0);
        }
        Check.due("two bytes of INPUT went", x.look(1), 6);
        for (int f = 1; f < 4; f++) {
            for (int at = 0; at < 8; at += 1 << f) {
                Steps.noAccess(x, f, Steps.LINE + at);
            }
        }
        Check.due("no more of INPUT went", x.look(1), 6);
        Check.due("OUTPUT", x.look(2), 1);
        Steps.noAccess(x, 0, Steps.LINE + 8);
        Steps.noAccess(x, 0, Steps.LINE - 1);
        Steps.noAccess(x, 0, Steps.LINE + (1L << 32));
    }

    private static void input() {
        Sentence.of(5, MEMORY, "0: read, the next byte of INPUT, which goes");
        HartBoard x = Steps.board();
        x.feed(3, 0xff8001);
        x.type();
        int[] want = {1, 0x80, 0xff};
        for (int k = 0; k < want.length; k++) {
            Check.due("byte " + k, Steps.loaded(x, 4, Steps.LINE), want[k]);
            Check.due("bytes left", x.look(1), 2 - k);
        }
        x.feed(1, 5);
        x.type();
        x.set(6, Steps.LINE);
        Steps.trapsOf("a load of 2", x, Code.load(1, 5, 6, 0), 5, Steps.LINE);
        Check.due("a trap takes none", x.look(1), 1);
        Steps.done("a load into x0", x, Code.load(4, 0, 6, 0));
        Check.due("takes one", x.look(1), 0);
        Sentence.of(5, MEMORY, "(0 without one);");
        for (int k = 0; k < 3; k++) {
            x.set(5, -1);
            Check.due("behind the last byte", Steps.loaded(x, 4, Steps.LINE), 0);
            Check.due("none is left", x.look(1), 0);
        }
        Check.due("of a new board", Steps.loaded(Steps.board(), 0, Steps.LINE), 0);
        x.feed(1, 7);
        x.type();
        Check.due("a byte that comes later", Steps.loaded(x, 4, Steps.LINE), 7);
    }

    private static void output() {
        Sentence.of(17, MEMORY, "written, one byte more of OUTPUT (which has 4096 at most; others are lost);");
        HartBoard x = Steps.board();
        x.set(6, Steps.LINE);
        Code.begin(x, RAM, Code.store(0, 7, 6, 0), Code.addi(7, 7, 1), Code.jal(0, -8));
        for (int k = 0; k < 3; k++) {
            x.step(4095);
        }
        Check.due("OUTPUT, one byte before it is full", x.look(2), 4095);
        Check.due("its last byte", x.out(4094), 4094 & 255);
        x.step(3);
        Check.due("OUTPUT, full", x.look(2), 4096);
        Check.due("the last byte", x.out(4095), 255);
        Check.due("a write that is lost is done", x.step(3), 3);
        Check.due("OUTPUT stays", x.look(2), 4096);
        Check.due("the last byte stays", x.out(4095), 255);
        Check.due("the first byte stays", x.out(0), 0);
    }

    private static void lineEnable() {
        Sentence.of(14, MEMORY, "1: its ENABLE (8 bits kept);");
        HartBoard x = Steps.board();
        for (long v : new long[] {0xff, 0x100, 0x1fe, -1, 0x80, 0}) {
            Steps.stored(x, 0, Steps.LINE + 1, v);
            Check.due("ENABLE", Steps.loaded(x, 4, Steps.LINE + 1), v & 255);
        }
        Check.due("no OUTPUT by it", x.look(2), 0);
    }

    private static void lineStatus() {
        Sentence.of(14, MEMORY, "5: 96, and 1 more if there is INPUT, not written;");
        HartBoard x = Steps.board();
        Check.due("without INPUT", Steps.loaded(x, 4, Steps.LINE + 5), 96);
        x.feed(1, 0);
        Check.due("the tape is no INPUT", Steps.loaded(x, 4, Steps.LINE + 5), 96);
        x.type();
        Check.due("with one byte", Steps.loaded(x, 4, Steps.LINE + 5), 97);
        Steps.stored(x, 0, Steps.LINE + 5, 0);
        Check.due("not written", Steps.loaded(x, 4, Steps.LINE + 5), 97);
        Check.due("to read it takes no INPUT", x.look(1), 1);
        Steps.loaded(x, 4, Steps.LINE);
        Check.due("when it has gone", Steps.loaded(x, 4, Steps.LINE + 5), 96);
    }

    private static void lineOthers() {
        Sentence.of(14, MEMORY, "the others read 0, not written.");
        HartBoard x = Steps.board();
        x.feed(1, 9);
        x.type();
        Steps.stored(x, 0, Steps.LINE + 1, -1);
        for (int at : new int[] {2, 3, 4, 6, 7}) {
            Steps.stored(x, 0, Steps.LINE + at, -1);
            Check.due("place " + at, Steps.loaded(x, 4, Steps.LINE + at), 0);
        }
        Check.due("INPUT stays", x.look(1), 1);
    }

    private static void notWritten() {
        Sentence.of(14, MEMORY, "What is written there to a place that is not written, is lost.");
        HartBoard x = Steps.board();
        for (int at = 2; at < 8; at++) {
            Steps.stored(x, 0, Steps.LINE + at, -1);
        }
        Check.due("OUTPUT", x.look(2), 0);
        Check.due("ENABLE", Steps.loaded(x, 4, Steps.LINE + 1), 0);
        Check.due("no trap", x.look(3), 0);
    }

    private static void accessFaults() {
        Sentence.of(14, MEMORY, "All other accesses are ACCESS FAULTS (also 8 bytes that begin in RAM and end behind it).");
        long[] nowhere = {0, 0x1000, Steps.SOFT - 8, Steps.SOFT + 0x10000, Steps.CONTROLLER + 0x400000, Steps.LINE + 0x100,
            RAM - 8, END, -8, Long.MIN_VALUE, Long.MAX_VALUE - 7, RAM + Long.MIN_VALUE, RAM + (1L << 32), 1L << 32};
        for (long at : nowhere) {
            HartBoard y = Steps.board();
            for (int f = 0; f < 4; f++) {
                Steps.noAccess(y, f, at);
            }
        }
        for (long device : new long[] {Steps.SOFT, Steps.COMPARE, Steps.TIME, Steps.priority(2), Steps.LINE}) {
            HartBoard y = Steps.board();
            for (int f = 0; f < 4; f++) {
                Steps.loadTraps(y, f, device + (1L << 32), 5);
                Steps.loadTraps(y, f, device + Long.MIN_VALUE, 5);
            }
        }
        HartBoard again = Steps.board();
        Steps.storeTraps(again, 3, END, 7);
        Steps.stored(again, 3, END - 8, 5);
        Steps.loadTraps(again, 3, END, 5);
        Check.due("a good access behind a fault", Steps.loaded(again, 3, END - 8), 5);
        // An aligned access never ends behind RAM: eight bytes that would are misaligned first, or asked by a call.
        HartBoard x = Steps.board();
        Steps.loadTraps(x, 3, END - 4, 4);
        Steps.storeTraps(x, 3, END - 4, 6);
        Check.dueNoSuchElement("peek of eight bytes over the end", () -> x.peek(END - 4));
        Check.dueNoSuchElement("poke of eight bytes over the end", () -> x.poke(END - 4, 8, -1));
        Check.due("the last bytes stay", x.peek(END - 8), 0);
    }

    private static void lineSource() {
        Sentence.of(13, MEMORY, "SOURCE 1 is HIGH if bit 0 of LINE's ENABLE is 1 and there is INPUT;");
        for (int enable : new int[] {0, 1, 0xfe, 0xff}) {
            for (int bytes = 0; bytes < 2; bytes++) {
                HartBoard x = Steps.board();
                if (bytes == 1) {
                    x.feed(1, 5);
                    x.type();
                }
                Steps.stored(x, 0, Steps.LINE + 1, enable);
                Check.due("ENABLE " + enable + ", INPUT " + bytes, x.look(9), bytes == 1 && (enable & 1) == 1 ? 2 : 0);
            }
        }
        HartBoard x = Steps.board();
        Steps.stored(x, 0, Steps.LINE + 1, 1);
        x.feed(1, 5);
        Check.due("the tape alone", x.look(9), 0);
        x.type();
        Check.due("typed", x.look(9), 2);
    }

    private static void otherSources() {
        Sentence.of(13, MEMORY, "2 .. 7 are as they were set last (low at first).");
        HartBoard x = Steps.board();
        x.step(1);
        Check.due("low at first", x.look(9), 0);
        x.raise(2, true);
        x.raise(3, true);
        x.raise(3, false);
        for (int s = 1; s <= 7; s++) {
            Steps.stored(x, 2, Steps.priority(s), 1);
        }
        Steps.stored(x, 2, Steps.enable(0), 0xfe);
        for (int s : new int[] {2, 3}) {
            Check.due("claimed", Steps.loaded(x, 2, Steps.claim(0)), s);
            Steps.stored(x, 2, Steps.claim(0), s);
            Check.due(s + " is as it was set last", x.look(9) >> s & 1, s == 2 ? 1 : 0);
            Steps.stored(x, 2, Steps.enable(0), 0xf8);
        }
        for (int high = 0; high < 2; high++) {
            // 4 is high and claimed, 6 is low and pending, while 5 is set.
            HartBoard y = withSource(4, 1, 0);
            Steps.loaded(y, 2, Steps.claim(0));
            y.raise(6, true);
            y.raise(6, false);
            y.raise(5, high == 1);
            Steps.stored(y, 2, Steps.claim(0), 4);
            Check.due("4 is high, when 5 has been set", y.look(9), 0x50 | high << 5);
            Steps.stored(y, 2, Steps.priority(6), 2);
            Steps.stored(y, 2, Steps.enable(0), 0x40);
            Check.due("6 is claimed", Steps.loaded(y, 2, Steps.claim(0)), 6);
            Steps.stored(y, 2, Steps.claim(0), 6);
            Check.due("6 is low, when 5 has been set", y.look(9), 0x10 | high << 5);
        }
    }

    private static void settling() {
        Sentence.of(13, MEMORY, "After each step, and after each call that changes INPUT or a source: a source that is high,"
            + " and not CLAIMED, becomes PENDING");
        HartBoard x = withSource(5, 1, 0);
        Check.due("pending behind the call", x.look(9), 32);
        Check.due("it is claimed", Steps.loaded(x, 2, Steps.claim(0)), 5);
        Check.due("high and claimed, it is not pending", x.look(9), 0);
        x.raise(5, false);
        x.raise(5, true);
        Check.due("nor when it is set again", x.look(9), 0);
        Steps.illegal(x, 0);
        Check.due("nor behind a trap", x.look(9), 0);
        Steps.stored(x, 2, Steps.claim(0), 5);
        Check.due("pending behind the step that ends the claim", x.look(9), 32);
        HartBoard y = Steps.board();
        y.feed(1, 5);
        y.type();
        Steps.stored(y, 0, Steps.LINE + 1, 1);
        Check.due("pending behind the step that enables", y.look(9), 2);
        HartBoard z = Steps.board();
        Steps.stored(z, 0, Steps.LINE + 1, 1);
        z.feed(1, 5);
        z.type();
        Check.due("pending behind the call that brings INPUT", z.look(9), 2);
        Sentence.of(13, MEMORY, "(it stays so until it is claimed).");
        x.raise(5, false);
        Check.due("low, it stays so", x.look(9), 32);
        x.step(3);
        Check.due("behind steps, too", x.look(9), 32);
        Check.due("it is claimed", Steps.loaded(x, 2, Steps.claim(0)), 5);
        Check.due("then no more", x.look(9), 0);
        Steps.loaded(y, 4, Steps.LINE);
        Check.due("it stays so without INPUT", y.look(9), 2);
        Steps.stored(y, 0, Steps.LINE + 1, 0);
        Check.due("and without ENABLE", y.look(9), 2);
    }

    private static void claiming() {
        Sentence.of(14, MEMORY, "To read CLAIM of c: of the sources pending and enabled for c with a priority above 0 the one"
            + " of the greatest priority,");
        HartBoard x = Steps.board();
        int[] priorities = {0, 0, 0, 3, 7, 6, 1, 5};
        for (int s = 2; s <= 7; s++) {
            Steps.stored(x, 2, Steps.priority(s), priorities[s]);
            x.raise(s, true);
            x.raise(s, false);
        }
        Steps.stored(x, 2, Steps.enable(0), 0xfe & ~(1 << 5));
        Steps.stored(x, 2, Steps.threshold(0), 7);
        for (int s : new int[] {4, 7, 3, 6}) {
            Check.due("the one of the greatest priority", Steps.loaded(x, 2, Steps.claim(0)), s);
        }
        Check.due("2 has priority 0, 5 is not enabled", Steps.loaded(x, 2, Steps.claim(0)), 0);
        Check.due("5 is not enabled for 1 either", Steps.loaded(x, 2, Steps.claim(1)), 0);
        Steps.stored(x, 2, Steps.enable(1), 32);
        Check.due("5 for context 1", Steps.loaded(x, 2, Steps.claim(1)), 5);
        Sentence.of(14, MEMORY, "of several the least number:");
        for (int least = 2; least <= 7; least++) {
            HartBoard y = Steps.board();
            Steps.stored(y, 2, Steps.enable(0), 0xfe);
            for (int s = 7; s >= least; s--) {
                Steps.stored(y, 2, Steps.priority(s), 7);
                y.raise(s, true);
            }
            for (int s = least; s <= 7; s++) {
                Check.due("of those from " + least, Steps.loaded(y, 2, Steps.claim(0)), s);
            }
        }
        Sentence.of(14, MEMORY, "it is pending no more, and claimed;");
        for (int s = 2; s <= 7; s++) {
            HartBoard y = withSource(s, 1, 0);
            y.raise(s == 2 ? 3 : 2, true);
            y.set(6, Steps.claim(0));
            Steps.done("a load, into x0 even", y, Code.load(2, 0, 6, 0));
            Check.due("pending", y.look(9), 1 << (s == 2 ? 3 : 2));
            Check.due("claimed", y.look(10), 1 << s);
        }
        Sentence.of(14, MEMORY, "0 without one.");
        HartBoard none = Steps.board();
        Check.due("none is pending", Steps.loaded(none, 2, Steps.claim(0)), 0);
        none.raise(3, true);
        Check.due("none is enabled", Steps.loaded(none, 2, Steps.claim(0)), 0);
        Steps.stored(none, 2, Steps.enable(0), 8);
        Check.due("none has a priority", Steps.loaded(none, 2, Steps.claim(0)), 0);
        Check.due("it stays pending", none.look(9), 8);
        Check.due("none is claimed", none.look(10), 0);
    }

    private static void completing() {
        Sentence.of(14, MEMORY, "To write it: the source of that number (1 .. 7), if it is enabled for c, is claimed no more.");
        HartBoard x = Steps.board();
        for (int s = 1; s <= 7; s++) {
            Steps.stored(x, 2, Steps.priority(s), 1);
        }
        Steps.stored(x, 2, Steps.enable(0), 0xfe);
        Steps.stored(x, 0, Steps.LINE + 1, 1);
        x.feed(1, 1);
        x.type();
        for (int s = 2; s <= 7; s++) {
            x.raise(s, true);
        }
        for (int s = 1; s <= 7; s++) {
            Check.due("claimed", Steps.loaded(x, 2, Steps.claim(0)), s);
        }
        for (long v : new long[] {0, 8, 9, 33, 0x100, 0x80000001L, -1, 0xffffff01L}) {
            Steps.stored(x, 2, Steps.claim(0), v);
            Check.due("no source of number " + v, x.look(10), 0xfe);
        }
        Steps.stored(x, 2, Steps.enable(0), 0xfc);
        Steps.stored(x, 2, Steps.claim(0), 1);
        Check.due("1 is not enabled", x.look(10), 0xfe);
        Steps.stored(x, 2, Steps.claim(1), 7);
        Check.due("7 is not enabled for 1", x.look(10), 0xfe);
        int claimed = 0xfe;
        Steps.stored(x, 2, Steps.enable(0), 0xfe);
        for (int s : new int[] {7, 2, 4, 1}) {
            Steps.stored(x, 2, Steps.claim(0), s);
            claimed &= ~(1 << s);
            Check.due(s + " is claimed no more", x.look(10), claimed);
            Check.due("and pending, as it is high", x.look(9), 0xfe & ~claimed);
        }
        Steps.stored(x, 2, Steps.claim(0), 7);
        Check.due("one that was not claimed", x.look(10), claimed);
    }

    private static void calling() {
        Sentence.of(14, MEMORY, "Context c CALLS if a source is pending, enabled for c, and its priority is above c's"
            + " threshold.");
        int[] bit = {0x800, 0x200};
        for (int c = 0; c < 2; c++) {
            for (int priority = 0; priority <= 7; priority++) {
                HartBoard x = withSource(6, priority, c);
                for (int threshold : new int[] {0, 1, 3, 6, 7}) {
                    Steps.stored(x, 2, Steps.threshold(c), threshold);
                    Steps.stored(x, 2, Steps.threshold(1 - c), 7 - threshold);
                    Check.due("priority " + priority + ", threshold " + threshold, x.control(Code.MIP),
                        priority > threshold ? bit[c] : 0);
                }
            }
            for (int s = 2; s <= 7; s++) {
                Check.due("source " + s, withSource(s, 1, c).control(Code.MIP), bit[c]);
            }
            HartBoard line = Steps.board();
            Steps.stored(line, 0, Steps.LINE + 1, 1);
            Steps.stored(line, 2, Steps.priority(1), 1);
            Steps.stored(line, 2, Steps.enable(c), 2);
            Check.due("source 1 without INPUT", line.control(Code.MIP), 0);
            line.feed(1, 1);
            line.type();
            Check.due("source 1", line.control(Code.MIP), bit[c]);
            HartBoard other = withSource(6, 2, c);
            Steps.stored(other, 2, Steps.priority(5), 7);
            Steps.stored(other, 2, Steps.enable(c), 0x60);
            Steps.stored(other, 2, Steps.threshold(c), 2);
            Check.due("the greater priority of a source that is not pending", other.control(Code.MIP), 0);
            HartBoard y = withSource(6, 7, c);
            Check.due("it calls", y.control(Code.MIP), bit[c]);
            Steps.stored(y, 2, Steps.enable(c), 0xbe);
            Check.due("others are enabled", y.control(Code.MIP), 0);
            Steps.stored(y, 2, Steps.enable(c), 0xfe);
            Steps.loaded(y, 2, Steps.claim(c));
            Check.due("it is claimed", y.control(Code.MIP), 0);
        }
    }
}
