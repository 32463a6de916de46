/** What stands under 'Terms' of the instructions of 32 bits. */
final class SentencesOfInstructions {
    private static final long RAM = Steps.RAM;
    private static final long END = Steps.END;
    private static final long DATA = Steps.DATA;
    private static final long MIN = Long.MIN_VALUE;
    private static final long MAX = Long.MAX_VALUE;
    private static final long MIN32 = Integer.MIN_VALUE;
    private static final long MAX32 = Integer.MAX_VALUE;
    private static final String KIND = "INSTRUCTIONS of 32 bits";

    private static final long[] NUMBERS = {0, 1, 2, 3, 7, 10, -1, -2, -3, -10, MIN, MIN + 1, MAX, MAX - 1, MIN32, MAX32,
        0xffffffffL, 1L << 32, 0x123456789abcdefL, 0xfedcba9876543210L, 0x5555555555555555L, 0xaaaaaaaaaaaaaaabL};

    private SentencesOfInstructions() {
    }

    static void run() {
        fields();
        shortConstants();
        storeConstants();
        branchConstants();
        jumpConstants();
        upperConstants();
        notTold();
        upper();
        jump();
        jumpByRegister();
        branches();
        loads();
        stores();
        constants();
        shiftConstants();
        narrowConstants();
        plain();
        otherWay();
        products();
        quotients();
        unsignedQuotients();
        rests();
        unsignedRests();
        narrow();
        atomicSizes();
        reserving();
        storingReserved();
        atomics();
        atomicFaults();
        atomicsInRam();
        storesThatTouch();
        fences();
        callAndBreak();
        machineReturn();
        supervisorReturn();
        waiting();
        fenceOfTables();
        controls();
        controlsByNumber();
        keptBit();
    }

    /** x5 of a and b by an instruction that is done. */
    private static void due(int code, int f, int g, long a, long b, long want) {
        HartBoard x = Steps.board();
        x.set(6, a);
        x.set(7, b);
        String what = Steps.hex(code) + ", g " + g + ", f " + f + " of " + a + " and " + b;
        Steps.done(what, x, Code.r(code, f, g, 5, 6, 7));
        Check.due(what, x.get(5), want);
        Check.due(what + ": PC", x.get(32), RAM + 4);
    }

    /** x5 of a and the upper twelve bits. */
    private static void dueConstant(int code, int f, long a, int constant, long want) {
        HartBoard x = Steps.board();
        x.set(6, a);
        String what = Steps.hex(code) + ", f " + f + " of " + a + " and " + constant;
        Steps.done(what, x, Code.i(code, f, 5, 6, constant));
        Check.due(what, x.get(5), want);
    }

    private static void illegal(int w) {
        Steps.illegal(Steps.board(), w);
    }

    private static void fields() {
        Sentence.of(14, KIND, "W: rd W[11..7], rs1 W[19..15], rs2 W[24..20], f W[14..12], g W[31..25]; a, b what rs1, rs2"
            + " have;");
        for (int rd : new int[] {0, 1, 2, 15, 16, 30, 31}) {
            for (int rs1 : new int[] {0, 1, 15, 16, 31}) {
                for (int rs2 : new int[] {0, 1, 15, 16, 31}) {
                    HartBoard x = Steps.board();
                    x.set(rs1, 1000);
                    x.set(rs2, 3);
                    long a = rs1 == 0 ? 0 : rs1 == rs2 ? 3 : 1000;
                    long b = rs2 == 0 ? 0 : 3;
                    Steps.done("a difference", x, Code.r(0x33, 0, 32, rd, rs1, rs2));
                    Check.due("x" + rd + " of x" + rs1 + " and x" + rs2, x.get(rd), rd == 0 ? 0 : a - b);
                }
            }
        }
    }

    private static void shortConstants() {
        Sentence.of(14, KIND, "I = SX(W[31..20], 12);");
        for (int k : new int[] {0, 1, 2047, -1, -2047, -2048}) {
            dueConstant(0x13, 0, 0, k, k);
            dueConstant(0x13, 0, MAX, k, MAX + k);
        }
    }

    private static void storeConstants() {
        Sentence.of(14, KIND, "S = SX(g and rd joined, 12);");
        for (int k : new int[] {0, 1, 16, 31, 32, 1024, 2047, -1, -32, -2047, -2048}) {
            HartBoard x = Steps.board();
            x.set(6, DATA + 2048);
            x.set(7, 0x77);
            Steps.done("a store", x, Code.store(0, 7, 6, k));
            Check.due("a store at " + k, x.peek(DATA + 2048 + k - 1) & 0xffffff, 0x7700);
        }
    }

    private static void branchConstants() {
        Sentence.of(14, KIND, "B, J, U as usual in this kind: B = SX of W[31], W[7], W[30..25], W[11..8], 0, 13;");
        for (int k : new int[] {0, 2, 4, 16, 30, 32, 1024, 2046, 2048, 4094, -2, -2048, -2050, -4094, -4096}) {
            HartBoard x = Steps.board();
            Code.begin(x, DATA, Code.branch(0, 0, 0, k));
            Check.due("a branch", x.step(1), 1);
            Check.due("a branch by " + k, x.get(32), DATA + k);
        }
    }

    private static void jumpConstants() {
        Sentence.of(14, KIND, "J = SX of W[31], W[19..12], W[20], W[30..21], 0, 21;");
        for (int k : new int[] {0, 2, 1024, 2046, 2048, 2050, 4096, 0x80000, 0xff000, 0xffffe, -2, -2048, -4096, -0x80000,
            -0xffffe,
            -0x100000}) {
            HartBoard x = Steps.board();
            Code.begin(x, DATA, Code.jal(0, k));
            Check.due("a jump", x.step(1), 1);
            Check.due("a jump by " + k, x.get(32), DATA + k);
        }
    }

    private static void upperConstants() {
        Sentence.of(14, KIND, "U = SX(W[31..12] and twelve 0s, 32).");
        long[][] rows = {{0, 0}, {1, 4096}, {0x7ffff, 0x7ffff000L}, {0x80000, MIN32}, {0xfffff, -4096}};
        for (long[] row : rows) {
            HartBoard x = Steps.board();
            Steps.done("U", x, (int) row[0] << 12 | 5 << 7 | 0x37);
            Check.due("U of " + row[0], x.get(5), row[1]);
        }
    }

    private static void notTold() {
        Sentence.of(14, KIND, "By W[6..0]; what is not told is illegal:");
        int[] told = {0x37, 0x17, 0x6f, 0x67, 0x63, 0x03, 0x23, 0x13, 0x1b, 0x33, 0x3b, 0x2f, 0x0f, 0x73};
        for (int code = 3; code < 128; code += 4) {
            boolean is = false;
            for (int one : told) {
                is |= one == code;
            }
            if (!is) {
                for (int above : new int[] {0, -1, 0x12345678}) {
                    illegal(above << 7 | code);
                }
            }
        }
        for (int f = 1; f < 8; f++) {
            illegal(Code.i(0x67, f, 5, 6, 0));
        }
        illegal(Code.branch(2, 0, 0, 8));
        illegal(Code.branch(3, 0, 0, 8));
        illegal(Code.load(7, 5, 6, 0));
        for (int f = 4; f < 8; f++) {
            illegal(Code.store(f, 5, 6, 0));
        }
        for (int f = 2; f < 8; f++) {
            illegal(Code.i(0x0f, f, 0, 0, 0));
        }
        illegal(Code.control(4, 5, 0x340, 6));
        illegal(Code.control(4, 5, 0x340, 0));
    }

    private static void upper() {
        Sentence.of(14, KIND, "0x37: rd = U. 0x17: PC + U.");
        HartBoard x = Steps.board();
        x.set(5, -1);
        Steps.done("0 for all", x, 5 << 7 | 0x37);
        Check.due("rd = U", x.get(5), 0);
        for (long pc : new long[] {RAM, DATA + 2}) {
            for (int u : new int[] {0, 1, 0x7ffff, 0x80000, 0xfffff}) {
                x.poke(pc, 4, u << 12 | 5 << 7 | 0x17);
                x.set(32, pc);
                Check.due("PC + U", x.step(1), 1);
                Check.due("PC + U of " + u, x.get(5), pc + (u << 12));
                Check.due("PC", x.get(32), pc + 4);
            }
        }
    }

    private static void jump() {
        Sentence.of(14, KIND, "0x6f: rd = PC + 4, PC = PC + J.");
        for (int rd : new int[] {0, 1, 31}) {
            for (int k : new int[] {-4, 0, 2, 4, 4096}) {
                HartBoard x = Steps.board();
                Code.begin(x, DATA, Code.jal(rd, k));
                Check.due("a jump", x.step(1), 1);
                Check.due("rd", x.get(rd), rd == 0 ? 0 : DATA + 4);
                Check.due("PC", x.get(32), DATA + k);
            }
        }
        HartBoard x = Steps.board();
        Code.begin(x, DATA, Code.jal(1, 0x80000));
        Check.due("a jump to where nothing is", x.step(1), 1);
        Steps.traps("what follows", x, 1, DATA + 0x80000);
    }

    private static void jumpByRegister() {
        Sentence.of(14, KIND, "0x67, f 0: rd = PC + 4, PC = a + I without bit 0.");
        long[][] rows = {{DATA, 0, DATA}, {DATA + 1, 0, DATA}, {DATA, 1, DATA}, {DATA + 1, 1, DATA + 2}, {DATA, -1, DATA - 2},
            {DATA, 2047, DATA + 2046}, {DATA, -2048, DATA - 2048}, {-1, 2, 0}, {0, -1, -2}, {MAX, 1, MIN}};
        for (long[] row : rows) {
            for (int rd : new int[] {0, 1, 6}) {
                HartBoard x = Steps.board();
                x.set(6, row[0]);
                Steps.done("a jump", x, Code.jalr(rd, 6, (int) row[1]));
                Check.due("PC of " + row[0] + " and " + row[1], x.get(32), row[2]);
                Check.due("rd " + rd, x.get(rd), rd == 0 ? 0 : RAM + 4);
            }
        }
    }

    private static void branches() {
        Sentence.of(14, KIND, "0x63: PC = PC + B, if (f 0) a = b, (1) not, (4) a < b, (5) not, (6) a < b unsigned, (7) not.");
        long[] values = {0, 1, -1, MIN, MAX, MIN + 1, 1L << 32, 5};
        for (long a : values) {
            for (long b : values) {
                boolean below = a + MIN < b + MIN;
                boolean[] holds = {a == b, a != b, false, false, a < b, a >= b, below, !below};
                for (int f : new int[] {0, 1, 4, 5, 6, 7}) {
                    HartBoard x = Steps.board();
                    x.set(6, a);
                    x.set(7, b);
                    Steps.done("a branch", x, Code.branch(f, 6, 7, 64));
                    Check.due("f " + f + " of " + a + " and " + b, x.get(32), holds[f] ? RAM + 64 : RAM + 4);
                }
            }
        }
    }

    private static void loads() {
        Sentence.of(14, KIND, "0x03: rd = SX of 1, 2, 4, 8 bytes at a + I (f 0 to 3), or they with 0s above (4, 5, 6: 1, 2,"
            + " 4).");
        long[] words = {0x8182838485868788L, 0x7f7e7d7c7b7a7978L, -1, 0};
        for (long word : words) {
            for (int f = 0; f < 7; f++) {
                int bits = 8 << (f & 3);
                HartBoard x = Steps.board();
                x.poke(DATA, 8, word);
                long want = bits == 64 ? word : f < 4 ? word << 64 - bits >> 64 - bits : word << 64 - bits >>> 64 - bits;
                Check.due("f " + f + " of " + Steps.hex(word), Steps.loaded(x, f, DATA), want);
            }
        }
        HartBoard x = Steps.board();
        x.poke(DATA, 8, 0x8182838485868788L);
        for (int k : new int[] {-2048, 2040}) {
            x.set(6, DATA - k);
            Steps.done("a load", x, Code.load(3, 5, 6, k));
            Check.due("at a + " + k, x.get(5), 0x8182838485868788L);
        }
        for (int k = 0; k < 8; k++) {
            Check.due("byte " + k, Steps.loaded(x, 4, DATA + k), 0x88 - k);
        }
    }

    private static void stores() {
        Sentence.of(14, KIND, "0x23: b's lowest 1, 2, 4, 8 bytes (f 0 to 3) are stored at a + S.");
        for (int f = 0; f < 4; f++) {
            int n = 1 << f;
            for (int at = 0; at < 8; at += n) {
                HartBoard x = Steps.board();
                for (int k = -8; k <= 8; k += 8) {
                    x.poke(DATA + k, 8, -1);
                }
                Steps.stored(x, f, DATA + at, 0x1112131415161718L);
                long mask = (n == 8 ? -1 : (1L << 8 * n) - 1) << 8 * at;
                Check.due("f " + f + " at " + at, x.peek(DATA), ~mask | 0x1112131415161718L << 8 * at & mask);
                Check.due("before", x.peek(DATA - 8), -1);
                Check.due("behind", x.peek(DATA + 8), -1);
            }
        }
    }

    private static void constants() {
        Sentence.of(14, KIND, "0x13: rd = (0) a + I, (2) a < I (1 or 0), (3) unsigned, (4) a xor I, (6) or, (7) and,");
        long[][] rows = {{0, MAX, 1, MIN}, {0, MIN, -1, MAX}, {2, -1, 0, 1}, {2, 0, -1, 0}, {2, -1, -1, 0},
            {2, MIN, -2048, 1}, {3, 0, -1, 1}, {3, -1, -1, 0}, {3, -2, -1, 1}, {3, 5, 5, 0}, {3, 4, 5, 1}, {3, -1, 5, 0},
            {4, 0x55, -1, ~0x55L}, {4, -1, 2047, -2048}, {6, 0x55, -2048, -2048 | 0x55}, {6, 0x800, 1, 0x801},
            {7, -1, -2048, -2048}, {7, 0xff, 0x55, 0x55}};
        for (long[] row : rows) {
            dueConstant(0x13, (int) row[0], row[1], (int) row[2], row[3]);
        }
    }

    private static void shiftConstants() {
        Sentence.of(14, KIND, "(1) W[31..26] 0: a shifted up by W[25..20], (5) down with 0s, with W[31..26] 16: with its"
            + " highest bit.");
        long[][] rows = {{1, 1, 0, 1}, {1, 1, 63, MIN}, {1, 3, 63, MIN}, {1, -1, 32, -1L << 32}, {5, MIN, 63, 1},
            {5, -1, 0, -1}, {5, -1, 32, 0xffffffffL}, {5, MIN, 0x400 | 63, -1}, {5, MIN, 0x400, MIN}, {5, MAX, 0x400 | 62, 1},
            {5, -1, 0x400 | 32, -1}};
        for (long[] row : rows) {
            dueConstant(0x13, (int) row[0], row[1], (int) row[2], row[3]);
        }
        for (int kind = 1; kind < 64; kind++) {
            illegal(Code.i(0x13, 1, 5, 6, kind << 6 | 1));
            if (kind != 16) {
                illegal(Code.i(0x13, 5, 5, 6, kind << 6 | 1));
            }
        }
    }

    private static void narrowConstants() {
        Sentence.of(14, KIND, "0x1b: the same with 32 bits: (0), (1, g 0), (5, g 0 or 32), shifts by W[24..20]: rd = SX(..,"
            + " 32).");
        long[][] rows = {{0, MAX32, 1, MIN32}, {0, MIN32, -1, MAX32}, {0, 0xffffffffL, 1, 0}, {0, 0x1234567800000000L, 0, 0},
            {0, 0x80000000L, 0, MIN32}, {1, 1, 31, MIN32}, {1, 3, 31, MIN32}, {1, 0x80000000L, 1, 0}, {1, -1, 0, -1},
            {5, -1, 1, MAX32}, {5, -1, 31, 1}, {5, 0x80000000L, 0, MIN32}, {5, MAX, 0, -1}, {5, 1L << 32, 0, 0},
            {5, 0x80000000L, 0x400 | 31, -1}, {5, MAX32, 0x400 | 30, 1}, {5, 0x7fffffff80000000L, 0x400 | 4, -0x8000000}};
        for (long[] row : rows) {
            dueConstant(0x1b, (int) row[0], row[1], (int) row[2], row[3]);
        }
        for (int f : new int[] {2, 3, 4, 6, 7}) {
            illegal(Code.i(0x1b, f, 5, 6, 0));
        }
        for (int g = 1; g < 128; g++) {
            illegal(Code.i(0x1b, 1, 5, 6, g << 5 | 1));
            if (g != 32) {
                illegal(Code.i(0x1b, 5, 5, 6, g << 5 | 1));
            }
        }
    }

    private static void plain() {
        Sentence.of(14, KIND, "0x33, g 0: (0) a + b, (1) a up by b[5..0], (2) a < b, (3) unsigned, (4) xor, (5) down with 0s,"
            + " (6) or, (7) and;");
        long[][] rows = {{0, MAX, 1, MIN}, {0, -1, -1, -2}, {0, MIN, MIN, 0}, {1, 1, 63, MIN}, {1, 1, 64, 1}, {1, 1, -1, MIN},
            {1, 5, 0, 5}, {2, -1, 0, 1}, {2, 0, -1, 0}, {2, MIN, MAX, 1}, {2, MAX, MIN, 0}, {2, 7, 7, 0}, {3, 0, -1, 1},
            {3, -1, 0, 0}, {3, MAX, MIN, 1}, {3, MIN, MAX, 0}, {3, 7, 7, 0}, {4, 0x0f0f, 0x00ff, 0x0ff0}, {4, -1, MIN, MAX},
            {5, -1, 63, 1}, {5, -1, 64, -1}, {5, -1, -1, 1}, {5, MIN, 1, 1L << 62}, {6, 0x0f0f, 0x00ff, 0x0fff},
            {6, MIN, MAX, -1}, {7, 0x0f0f, 0x00ff, 0x000f}, {7, MIN, MAX, 0}};
        for (long[] row : rows) {
            due(0x33, (int) row[0], 0, row[1], row[2], row[3]);
        }
        for (int g = 2; g < 128; g++) {
            for (int f = 0; f < 8; f++) {
                if (g != 32) {
                    illegal(Code.r(0x33, f, g, 5, 6, 7));
                }
            }
        }
    }

    private static void otherWay() {
        Sentence.of(14, KIND, "g 32: (0) a - b, (5) down with its highest bit;");
        long[][] rows = {{0, MIN, 1, MAX}, {0, 0, MIN, MIN}, {0, 0, 1, -1}, {0, 5, 5, 0}, {5, MIN, 63, -1}, {5, MIN, 64, MIN},
            {5, MIN, -1, -1}, {5, MAX, 62, 1}, {5, MAX, 63, 0}, {5, MIN, 1, 3L << 62}};
        for (long[] row : rows) {
            due(0x33, (int) row[0], 32, row[1], row[2], row[3]);
        }
        for (int f : new int[] {1, 2, 3, 4, 6, 7}) {
            illegal(Code.r(0x33, f, 32, 5, 6, 7));
        }
    }

    private static void products() {
        Sentence.of(14, KIND, "g 1: (0) a * b, (1) its upper 64 bits, (2) those of a signed, b unsigned, (3) both unsigned,");
        long[][] rows = {{0, MAX, 2, -2}, {0, MIN, -1, MIN}, {0, -1, -1, 1}, {0, 1L << 32, 1L << 32, 0},
            {1, MIN, MIN, 1L << 62}, {1, MAX, MAX, (1L << 62) - 1}, {1, MIN, MAX, -(1L << 62)}, {1, -1, 1, -1},
            {1, -1, -1, 0}, {1, 0, -1, 0}, {1, -5, 0, 0}, {1, 5, 0, 0}, {1, 1L << 32, 1L << 32, 1}, {2, -1, -1, -1},
            {2, MIN, -1, MIN}, {2, 1, -1, 0}, {2, 2, -1, 1}, {2, MIN, MIN, -(1L << 62)}, {2, 0, -1, 0}, {2, -1, 0, 0},
            {2, 5, 0, 0}, {2, -1, 1, -1}, {3, -1, -1, -2}, {3, MIN, 2, 1}, {3, MIN, MIN, 1L << 62}, {3, 0, -1, 0},
            {3, -1, 1, 0}};
        for (long[] row : rows) {
            due(0x33, (int) row[0], 1, row[1], row[2], row[3]);
        }
        for (long a : NUMBERS) {
            for (long b : NUMBERS) {
                long unsigned = Math.multiplyHigh(a, b) + (a < 0 ? b : 0) + (b < 0 ? a : 0);
                due(0x33, 0, 1, a, b, a * b);
                due(0x33, 1, 1, a, b, Math.multiplyHigh(a, b));
                due(0x33, 2, 1, a, b, unsigned - (a < 0 ? b : 0));
                due(0x33, 3, 1, a, b, unsigned);
            }
        }
    }

    private static void quotients() {
        Sentence.of(14, KIND, "(4) a / b towards 0 (by 0: -1; the least by -1: itself),");
        long[][] rows = {{4, 7, 2, 3}, {4, -7, 2, -3}, {4, 7, -2, -3}, {4, -7, -2, 3}, {4, 7, 0, -1}, {4, -7, 0, -1},
            {4, 0, 0, -1}, {4, MIN, 0, -1}, {4, MIN, -1, MIN}, {4, MAX, -1, -MAX}, {4, MIN, 1, MIN}, {4, 1, MIN, 0},
            {4, MIN, MIN, 1}};
        for (long[] row : rows) {
            due(0x33, (int) row[0], 1, row[1], row[2], row[3]);
        }
        for (long a : NUMBERS) {
            for (long b : NUMBERS) {
                due(0x33, 4, 1, a, b, b == 0 ? -1 : a / b);
            }
        }
    }

    private static void unsignedQuotients() {
        Sentence.of(14, KIND, "(5) unsigned (by 0: all 1s),");
        long[][] rows = {{5, -1, 2, MAX}, {5, 7, 2, 3}, {5, 7, 8, 0}, {5, 7, 0, -1}, {5, 0, 0, -1}, {5, -1, 0, -1},
            {5, -1, -1, 1}, {5, -2, -1, 0}, {5, MIN, -1, 0}, {5, MIN, MAX, 1}, {5, -1, MAX, 2}, {5, -1, 1, -1},
            {5, -1, MIN, 1}, {5, MAX, MIN, 0}};
        for (long[] row : rows) {
            due(0x33, (int) row[0], 1, row[1], row[2], row[3]);
        }
        for (long a : NUMBERS) {
            for (long b : NUMBERS) {
                due(0x33, 5, 1, a, b, b == 0 ? -1 : Long.divideUnsigned(a, b));
            }
        }
    }

    private static void rests() {
        Sentence.of(14, KIND, "(6) the rest with a's sign (by 0: a; the least by -1: 0),");
        long[][] rows = {{6, 7, 2, 1}, {6, -7, 2, -1}, {6, 7, -2, 1}, {6, -7, -2, -1}, {6, 7, 0, 7}, {6, -7, 0, -7},
            {6, MIN, 0, MIN}, {6, 0, 0, 0}, {6, MIN, -1, 0}, {6, MIN, MAX, -1}, {6, MAX, MIN, MAX}};
        for (long[] row : rows) {
            due(0x33, (int) row[0], 1, row[1], row[2], row[3]);
        }
        for (long a : NUMBERS) {
            for (long b : NUMBERS) {
                due(0x33, 6, 1, a, b, b == 0 ? a : a % b);
            }
        }
    }

    private static void unsignedRests() {
        Sentence.of(14, KIND, "(7) unsigned (by 0: a).");
        long[][] rows = {{7, -1, 10, 5}, {7, 7, 2, 1}, {7, 7, 1, 0}, {7, -1, 1, 0}, {7, 7, 0, 7}, {7, -7, 0, -7},
            {7, 0, 0, 0}, {7, -1, -1, 0}, {7, -2, -1, -2}, {7, MIN, -1, MIN}, {7, MIN, MAX, 1}, {7, -1, MIN, MAX},
            {7, -1, MAX, 1}};
        for (long[] row : rows) {
            due(0x33, (int) row[0], 1, row[1], row[2], row[3]);
        }
        for (long a : NUMBERS) {
            for (long b : NUMBERS) {
                due(0x33, 7, 1, a, b, b == 0 ? a : Long.remainderUnsigned(a, b));
            }
        }
    }

    private static void narrow() {
        Sentence.of(14, KIND, "0x3b: the same with 32 bits, shifts by b[4..0], rd = SX(.., 32): g 0: (0), (1), (5); g 32:"
            + " (0), (5); g 1: (0), (4) to (7).");
        long[][] sums = {{0, MAX32, 1, MIN32}, {0, 0xffffffffL, 1, 0}, {0, MIN32, MIN32, 0}, {1, 1, 31, MIN32}, {1, 1, 32, 1},
            {1, 1, -1, MIN32}, {5, -1, 31, 1}, {5, -1, 32, -1}, {5, -1, -1, 1}, {5, 1L << 32, 0, 0},
            {5, 0x80000000L, 64, MIN32}};
        for (long[] row : sums) {
            due(0x3b, (int) row[0], 0, row[1], row[2], row[3]);
        }
        long[][] others = {{0, MIN32, 1, MAX32}, {0, 0, MIN32, MIN32}, {0, 1L << 32, 1, -1}, {5, MIN32, 31, -1},
            {5, 0x80000000L, 32, MIN32}, {5, MAX, 4, -1}, {5, MAX32, 30, 1}};
        for (long[] row : others) {
            due(0x3b, (int) row[0], 32, row[1], row[2], row[3]);
        }
        long[][] products = {{0, 0x10000, 0x10000, 0}, {0, 0x10000, 0x8000, MIN32}, {0, 0x100000003L, 5, 15}, {4, -7, 2, -3},
            {4, 5, 0, -1}, {4, 5, 1L << 32, -1}, {4, MIN32, -1, MIN32}, {4, 0x80000000L, 0xffffffffL, MIN32},
            {4, MIN32, 0, -1}, {5, -1, 1, -1}, {5, -1, 2, MAX32}, {5, 5, 0, -1}, {5, 5, 1L << 32, -1}, {5, MIN32, -1, 0},
            {5, 0x1ffffffffL, 0xffffffffL, 1}, {6, -7, 2, -1}, {6, 7, -2, 1}, {6, 0x80000000L, 0, MIN32}, {6, 5, 1L << 32, 5},
            {6, MIN32, -1, 0}, {7, -1, 16, 15}, {7, 0x80000000L, 0, MIN32}, {7, -2, -1, -2}, {7, MIN32, -1, MIN32},
            {7, -1, MIN32, MAX32}};
        for (long[] row : products) {
            due(0x3b, (int) row[0], 1, row[1], row[2], row[3]);
        }
        for (long a : NUMBERS) {
            for (long b : NUMBERS) {
                int p = (int) a;
                int q = (int) b;
                due(0x3b, 0, 1, a, b, p * q);
                due(0x3b, 4, 1, a, b, q == 0 ? -1 : p / q);
                due(0x3b, 5, 1, a, b, q == 0 ? -1 : Integer.divideUnsigned(p, q));
                due(0x3b, 6, 1, a, b, q == 0 ? p : p % q);
                due(0x3b, 7, 1, a, b, q == 0 ? p : Integer.remainderUnsigned(p, q));
            }
        }
        for (int g = 0; g < 128; g++) {
            for (int f = 0; f < 8; f++) {
                boolean told = g == 0 && (f == 0 || f == 1 || f == 5) || g == 32 && (f == 0 || f == 5)
                    || g == 1 && (f == 0 || f > 3);
                if (!told) {
                    illegal(Code.r(0x3b, f, g, 5, 6, 7));
                }
            }
        }
    }

    private static void atomicSizes() {
        Sentence.of(14, KIND, "0x2f, f 2 or 3 (n 4 or 8; what is read is SX(.., 8 n)): by W[31..27] at a:");
        for (int what = 0; what < 32; what++) {
            boolean told = what < 4 || what % 4 == 0;
            for (int f = 0; f < 8; f++) {
                for (int bits = 0; bits < 4; bits++) {
                    HartBoard x = Steps.board();
                    x.set(6, DATA);
                    int w = Code.atomic(what, f, 5, 6, what == 2 ? 0 : 7) | bits << 25;
                    if (told && (f == 2 || f == 3)) {
                        Steps.done(Steps.hex(w), x, w);
                    } else {
                        Steps.illegal(x, w);
                    }
                }
            }
        }
        for (int what : new int[] {0, 1, 2, 4, 28}) {
            HartBoard x = Steps.board();
            x.set(6, DATA);
            x.poke(DATA, 8, 0x7fffffff80000000L);
            Steps.done("of four bytes", x, Code.atomic(what, 2, 5, 6, 0));
            Check.due("read with its sign", x.get(5), MIN32);
            x.poke(DATA, 8, 0x7fffffff80000000L);
            Steps.done("of eight bytes", x, Code.atomic(what, 3, 5, 6, 0));
            Check.due("read whole", x.get(5), 0x7fffffff80000000L);
        }
    }

    private static void reserving() {
        Sentence.of(14, KIND, "2 with rs2 0: rd is read, the RESERVATION is the physical address and n.");
        for (int rs2 = 0; rs2 < 32; rs2++) {
            HartBoard x = Steps.board();
            x.set(6, DATA);
            int w = Code.atomic(2, 3, 5, 6, rs2);
            if (rs2 == 0) {
                Steps.done("rs2 0", x, w);
            } else {
                Steps.illegal(x, w);
            }
            Check.due("the reservation with rs2 " + rs2, x.look(7), rs2 == 0 ? 8 : 0);
        }
        HartBoard x = Steps.board();
        for (long at : new long[] {RAM, END - 8, END - 4}) {
            int f = at == END - 4 ? 2 : 3;
            Steps.reserved(x, f, at);
            Check.due("read", x.get(5), f == 3 ? x.peek(at) : 0);
        }
        // Two pages of one place: what counts is the physical address.
        HartBoard y = new Pages(3).leaf(DATA, Pages.ALL).board();
        y.poke(Pages.LAST + 16, 8, Pages.entry(DATA, Pages.ALL));
        y.order(Code.MSTATUS, 1 << 17 | 1 << 11);
        Steps.reserved(y, 3, Pages.AT + 8);
        y.set(6, Pages.AT + 4096 + 8);
        Steps.done("a store by the other page", y, Code.atomic(3, 3, 5, 6, 7));
        Check.due("is done", y.get(5), 0);
    }

    private static void storesReserved(String what, HartBoard x, int f, long at, int want) {
        x.set(6, at);
        x.set(7, 0x1122334455667788L);
        x.poke(at, 1 << f, 0);
        Steps.done(what, x, Code.atomic(3, f, 5, 6, 7));
        Check.due(what + ": rd", x.get(5), want);
        long mask = f == 2 ? 0xffffffffL : -1;
        Check.due(what + ": memory", x.peek(at) & mask, want == 0 ? 0x1122334455667788L & mask : 0);
        Check.due(what + ": it goes", x.look(7), 0);
    }

    private static void storingReserved() {
        Sentence.of(14, KIND, "3: b is stored and rd 0, if the reservation is this address and n, else rd 1; it goes in any"
            + " case.");
        HartBoard x = Steps.board();
        storesReserved("without a reservation", x, 3, DATA, 1);
        for (int f = 2; f < 4; f++) {
            Steps.reserved(x, f, DATA);
            storesReserved("this address and n", x, f, DATA, 0);
            storesReserved("a second time", x, f, DATA, 1);
            Steps.reserved(x, f, DATA);
            storesReserved("another n", x, 5 - f, DATA, 1);
            Steps.reserved(x, f, DATA);
            storesReserved("the address before", x, f, DATA - 8, 1);
            storesReserved("this address then", x, f, DATA, 1);
            Steps.reserved(x, f, DATA);
            storesReserved("the address behind", x, f, DATA + 8, 1);
        }
        Steps.reserved(x, 3, DATA);
        storesReserved("the upper half", x, 2, DATA + 4, 1);
        HartBoard y = Steps.board();
        Steps.reserved(y, 3, DATA);
        Steps.reserved(y, 3, DATA + 64);
        storesReserved("the latest reservation alone", y, 3, DATA, 1);
        HartBoard z = Steps.board();
        Steps.reserved(z, 3, DATA);
        z.set(6, DATA + 4);
        Steps.trapsOf("a misaligned one", z, Code.atomic(3, 3, 5, 6, 7), 6, DATA + 4);
        Check.due("it goes in any case", z.look(7), 0);
    }

    private static void atomics() {
        Sentence.of(14, KIND, "1, 0, 4, 12, 8, 16, 20, 24, 28: rd is read, and stored is b, the sum, xor, and, or, the"
            + " lesser, the greater, those unsigned, of it and b (of n bytes).");
        int[] codes = {1, 0, 4, 12, 8, 16, 20, 24, 28};
        long[] values = {0, 1, -1, MIN, MAX, MIN32, MAX32, 0x80000000L, 0x1234567887654321L};
        for (long read : values) {
            for (long b : values) {
                for (int f = 2; f < 4; f++) {
                    long p = f == 2 ? (int) read : read;
                    long q = f == 2 ? (int) b : b;
                    boolean below = p + MIN < q + MIN;
                    long[] stored = {q, p + q, p ^ q, p & q, p | q, p < q ? p : q, p < q ? q : p, below ? p : q, below ? q : p};
                    for (int k = 0; k < codes.length; k++) {
                        HartBoard x = Steps.board();
                        x.poke(DATA, 8, read);
                        x.set(6, DATA);
                        x.set(7, b);
                        Steps.done("atomic", x, Code.atomic(codes[k], f, 5, 6, 7));
                        String what = codes[k] + ", f " + f + " of " + read + " and " + b;
                        Check.due(what + ": rd", x.get(5), p);
                        Check.due(what + ": stored", x.peek(DATA),
                            f == 2 ? read & -1L << 32 | stored[k] & 0xffffffffL : stored[k]);
                    }
                }
            }
        }
        HartBoard x = Steps.board();
        x.poke(DATA, 8, 5);
        x.set(6, DATA);
        Steps.done("rd is rs1", x, Code.atomic(0, 3, 6, 6, 6));
        Check.due("rd", x.get(6), 5);
        Check.due("stored", x.peek(DATA), 5 + DATA);
    }

    private static void atomicFaults() {
        Sentence.of(14, KIND, "All but 2 are stores: misaligned and translated as such first (2 as a load).");
        int[] codes = {1, 0, 4, 12, 8, 16, 20, 24, 28, 3, 2};
        for (int code : codes) {
            boolean load = code == 2;
            int rs2 = load ? 0 : 7;
            HartBoard x = Steps.board();
            for (int off = 1; off < 8; off++) {
                x.set(6, DATA + off);
                Steps.trapsOf("of eight", x, Code.atomic(code, 3, 5, 6, rs2), load ? 4 : 6, DATA + off);
                if (off % 4 != 0) {
                    x.set(6, Steps.LINE + off);
                    Steps.trapsOf("of four", x, Code.atomic(code, 2, 5, 6, rs2), load ? 4 : 6, Steps.LINE + off);
                }
            }
            HartBoard y = new Pages(3).leaf(DATA, 0x43).board();
            y.order(Code.MSTATUS, 1 << 17 | 1 << 11);
            y.set(6, Pages.AT);
            int w = Code.atomic(code, 3, 5, 6, rs2);
            if (load) {
                Steps.done("of a page that is not written", y, w);
            } else {
                Steps.trapsOf("of a page that is not written", y, w, 15, Pages.AT);
            }
            y.order(Code.MSTATUS, 1 << 17 | 1 << 11);
            y.set(6, Pages.AT + 4096);
            Steps.trapsOf("of no page", y, w, load ? 13 : 15, Pages.AT + 4096);
        }
    }

    private static void atomicsInRam() {
        Sentence.of(14, KIND, "In RAM alone; else access fault.");
        int[] codes = {1, 0, 4, 12, 8, 16, 20, 24, 28, 3, 2};
        for (int code : codes) {
            boolean load = code == 2;
            for (int f = 2; f < 4; f++) {
                HartBoard x = Steps.board();
                x.raise(2, true);
                Steps.stored(x, 2, Steps.priority(2), 1);
                Steps.stored(x, 2, Steps.enable(0), 4);
                long[] places = {Steps.COMPARE, Steps.TIME, Steps.SOFT, Steps.priority(2), f == 2 ? Steps.claim(0) : 0,
                    Steps.LINE, END,
                    RAM - 8, 0, -8};
                for (long at : places) {
                    x.set(6, at);
                    Steps.trapsOf("at " + Steps.hex(at), x, Code.atomic(code, f, 5, 6, load ? 0 : 7), load ? 5 : 7, at);
                }
                Check.due("nothing was claimed", x.look(10), 0);
                Check.due("COMPARE stays", Steps.loaded(x, 3, Steps.COMPARE), -1);
                x.set(6, END - (1 << f));
                Steps.done("at the end of RAM", x, Code.atomic(code, f, 5, 6, load ? 0 : 7));
            }
        }
    }

    private static void storesThatTouch() {
        Sentence.of(14, KIND, "A store (any one) that touches the reservation's bytes ends it.");
        for (int f = 2; f < 4; f++) {
            int size = 1 << f;
            for (int by = 0; by < 4; by++) {
                for (int at = -8; at < 16; at += 1 << by) {
                    HartBoard x = Steps.board();
                    Steps.reserved(x, f, DATA);
                    Steps.stored(x, by, DATA + at, 0);
                    boolean touches = at < size && at + (1 << by) > 0;
                    Check.due("a store of f " + by + " at " + at, x.look(7), touches ? 0 : size);
                }
            }
            for (int code : new int[] {0, 1, 4, 8, 12, 16, 20, 24, 28}) {
                for (int at = -8; at < 16; at += 4) {
                    HartBoard x = Steps.board();
                    Steps.reserved(x, f, DATA);
                    x.set(6, DATA + at);
                    Steps.done("an atomic store", x, Code.atomic(code, 2, 5, 6, 0));
                    boolean touches = at < size && at + 4 > 0;
                    Check.due("an atomic store at " + at, x.look(7), touches ? 0 : size);
                }
            }
        }
        HartBoard x = Steps.board();
        Steps.reserved(x, 3, DATA);
        x.set(2, DATA);
        Check.due("a store of 16 bits", Code.half(x, 0xe002), 1);
        Check.due("ends it, too", x.look(7), 0);
        Steps.reserved(x, 3, DATA);
        Steps.loaded(x, 3, DATA);
        Steps.stored(x, 0, Steps.LINE, 5);
        Check.due("loads and devices leave it", x.look(7), 8);
    }

    private static void fences() {
        Sentence.of(14, KIND, "0x0f, f 0 or 1: nothing.");
        for (int privilege : Steps.PRIVILEGES) {
            for (int f = 0; f < 2; f++) {
                HartBoard x = Steps.board(privilege);
                Steps.done("a fence", x, Code.i(0x0f, f, 31, 31, -1));
                Check.due("x31", x.get(31), 0);
                Check.due("PC", x.get(32), RAM + 4);
            }
        }
    }

    private static void callAndBreak() {
        Sentence.of(14, KIND, "0x73, f 0: W 0x73: a call; 0x100073: a break;");
        HartBoard x = Steps.board();
        Steps.trapsOf("a call", x, 0x73, 11, 0);
        Steps.trapsOf("a break", x, 0x100073, 3, RAM);
        for (int bit = 7; bit < 32; bit++) {
            if (bit < 12 || bit > 14) {
                for (int w : new int[] {0x73, 0x100073}) {
                    if ((w ^ 1 << bit) != 0x73 && (w ^ 1 << bit) != 0x100073) {
                        illegal(w ^ 1 << bit);
                    }
                }
            }
        }
    }

    private static void machineReturn() {
        Sentence.of(14, KIND, "0x30200073 (privilege 3, else illegal): PC = MEPC, PRIVILEGE = MPP, MIE = MPIE, MPIE = 1, MPP"
            + " = 0, MPRV = 0 if MPP was not 3;");
        for (int privilege : new int[] {0, 1}) {
            HartBoard x = Steps.board(privilege);
            x.order(Code.MEPC, DATA);
            Steps.illegal(x, Code.MRET);
        }
        for (int mpp : Steps.PRIVILEGES) {
            for (int ie = 0; ie < 4; ie++) {
                HartBoard x = Steps.board();
                long rest = 0x7c0122L;
                x.order(Code.MEPC, DATA + 3);
                x.order(Code.MSTATUS, rest | 1 << 17 | mpp << 11 | (ie & 1) << 3 | (ie >> 1) << 7);
                Steps.reserved(x, 3, DATA);
                Steps.done("the return", x, Code.MRET);
                Check.due("PC", x.get(32), DATA + 2);
                Check.due("PRIVILEGE", x.look(0), mpp);
                Check.due("MSTATUS", x.control(Code.MSTATUS),
                    10L << 32 | rest | 0x80 | (ie >> 1) << 3 | (mpp == 3 ? 1 << 17 : 0));
                Check.due("the reservation goes", x.look(7), 0);
            }
        }
    }

    private static void supervisorReturn() {
        Sentence.of(14, KIND, "0x10200073 (privilege 3, or 1 without TSR): PC = SEPC, PRIVILEGE = SPP, SIE = SPIE, SPIE = 1,"
            + " SPP = 0, MPRV = 0: the reservation goes with both;");
        for (int privilege : Steps.PRIVILEGES) {
            for (int tsr = 0; tsr < 2; tsr++) {
                for (int bits = 0; bits < 8; bits++) {
                    HartBoard x = Steps.board();
                    long rest = 0x3c1888L | (long) tsr << 22;
                    int spp = bits >> 2;
                    Steps.reserved(x, 3, DATA);
                    x.order(Code.SEPC, DATA + 3);
                    x.order(Code.MSTATUS, rest | 1 << 17 | spp << 8 | (bits & 1) << 1 | (bits >> 1 & 1) << 5);
                    x.lower(privilege);
                    if (privilege == 0 || privilege == 1 && tsr == 1) {
                        Steps.illegal(x, Code.SRET);
                    } else {
                        Steps.done("the return at " + privilege, x, Code.SRET);
                        Check.due("PC", x.get(32), DATA + 2);
                        Check.due("PRIVILEGE", x.look(0), spp);
                        Check.due("MSTATUS", x.control(Code.MSTATUS),
                            10L << 32 | rest & ~(1L << 17) | (bits >> 1 & 1) << 1 | 1 << 5);
                    }
                    Check.due("the reservation goes", x.look(7), 0);
                }
            }
        }
    }

    /** Nothing at privilege 3, and at 1 without the bit of MSTATUS; else illegal. */
    private static void nothing(int w, int bit) {
        for (int privilege : Steps.PRIVILEGES) {
            for (long status : new long[] {0, 1L << bit, ~(1L << bit), -1}) {
                HartBoard x = Steps.board();
                x.order(Code.MSTATUS, status);
                x.lower(privilege);
                if (privilege == 0 || privilege == 1 && (status >> bit & 1) == 1) {
                    Steps.illegal(x, w);
                } else {
                    Steps.done(Steps.hex(w) + " at " + privilege, x, w);
                    Check.due("PC", x.get(32), RAM + 4);
                    Check.due("PRIVILEGE", x.look(0), privilege);
                }
            }
        }
    }

    private static void waiting() {
        Sentence.of(14, KIND, "0x10500073: nothing (illegal at privilege 0, and at 1 with TW);");
        nothing(0x10500073, 21);
        illegal(0x10500073 | 1 << 7);
        illegal(0x10500073 | 1 << 15);
        illegal(0x10600073);
    }

    private static void fenceOfTables() {
        Sentence.of(14, KIND, "g 9, rd 0: nothing (illegal at privilege 0, and at 1 with TVM).");
        nothing(9 << 25 | 0x73, 20);
        nothing(9 << 25 | 31 << 20 | 31 << 15 | 0x73, 20);
        for (int rd : new int[] {1, 16, 31}) {
            illegal(9 << 25 | rd << 7 | 0x73);
        }
        for (int g : new int[] {1, 7, 10, 11, 25, 41, 73}) {
            illegal(g << 25 | 0x73);
        }
    }

    /** The control register 0x340 behind an instruction of f, and what was read. */
    private static void dueControl(int f, int rs1, long a, long want) {
        HartBoard x = Steps.board();
        x.order(0x340, 0xff0);
        x.set(rs1, a);
        Steps.done("f " + f, x, Code.control(f, 5, 0x340, rs1));
        Check.due("f " + f + " with rs1 " + rs1 + ": it was", x.get(5), 0xff0);
        Check.due("f " + f + " with rs1 " + rs1 + ": it is", x.control(0x340), want);
    }

    private static void controls() {
        Sentence.of(14, KIND, "f 1, 2, 3: rd = the control register W[31..20], it becomes a, or with a's bits, or without (2,"
            + " 3: not written if rs1 is 0);");
        dueControl(1, 6, 0xf00f, 0xf00f);
        dueControl(1, 6, 0, 0);
        dueControl(1, 6, -1, -1);
        dueControl(1, 0, 5, 0);
        dueControl(2, 6, 0xf00f, 0xffff);
        dueControl(2, 6, 0, 0xff0);
        dueControl(2, 0, 5, 0xff0);
        dueControl(3, 6, 0xf0, 0xf00);
        dueControl(3, 6, -1, 0);
        dueControl(3, 0, 5, 0xff0);
        HartBoard x = Steps.board();
        x.order(0x340, 7);
        x.set(6, 9);
        Steps.done("rd is rs1", x, Code.control(1, 6, 0x340, 6));
        Check.due("rd", x.get(6), 7);
        Check.due("the register", x.control(0x340), 9);
        // With rs1 not 0 it is a write, whatever a is: MIP keeps then what it reads.
        for (int f = 2; f <= 3; f++) {
            HartBoard y = callsOne();
            y.set(6, 0);
            Steps.done("a write of no bits", y, Code.control(f, 5, Code.MIP, 6));
            Steps.stored(y, 2, Steps.enable(1), 0);
            Check.due("bit 9 is kept", y.control(Code.MIP), 0x200);
            HartBoard z = callsOne();
            Steps.done("no write", z, Code.control(f, 5, Code.MIP, 0));
            Steps.stored(z, 2, Steps.enable(1), 0);
            Check.due("bit 9 is not kept", z.control(Code.MIP), 0);
        }
    }

    /** Context 1 calls, by nothing that MIP keeps. */
    private static HartBoard callsOne() {
        HartBoard x = Steps.board();
        Steps.stored(x, 2, Steps.priority(4), 1);
        Steps.stored(x, 2, Steps.enable(1), 1 << 4);
        x.raise(4, true);
        Check.due("context 1 calls", x.control(Code.MIP), 0x200);
        return x;
    }

    private static void controlsByNumber() {
        Sentence.of(14, KIND, "5, 6, 7: with rs1's number for a (6, 7 not written if it is 0).");
        dueControl(5, 31, 0x1000, 31);
        dueControl(5, 0, 0, 0);
        dueControl(5, 16, -1, 16);
        dueControl(6, 31, 0x1000, 0xfff);
        dueControl(6, 1, -1, 0xff1);
        dueControl(6, 0, 0, 0xff0);
        dueControl(7, 31, -1, 0xfe0);
        dueControl(7, 16, -1, 0xfe0);
        dueControl(7, 0, 0, 0xff0);
        for (int f = 6; f <= 7; f++) {
            HartBoard z = callsOne();
            Steps.done("no write", z, Code.control(f, 5, Code.MIP, 0));
            Steps.stored(z, 2, Steps.enable(1), 0);
            Check.due("bit 9 is not kept", z.control(Code.MIP), 0);
        }
    }

    private static void keptBit() {
        Sentence.of(14, KIND, "(So of MIP bit 9 is kept when it reads 1 by context 1 alone.)");
        HartBoard x = callsOne();
        Steps.done("another bit is set", x, Code.control(6, 5, Code.MIP, 2));
        Check.due("what was read", x.get(5), 0x200);
        Steps.stored(x, 2, Steps.enable(1), 0);
        Check.due("bit 9 is kept", x.control(Code.MIP), 0x202);
        HartBoard y = callsOne();
        y.set(6, 0x200);
        Steps.done("it is taken away", y, Code.control(3, 5, Code.MIP, 6));
        Check.due("context 1 calls still", y.control(Code.MIP), 0x200);
        Steps.stored(y, 2, Steps.enable(1), 0);
        Check.due("bit 9 is not kept", y.control(Code.MIP), 0);
        HartBoard z = callsOne();
        z.order(Code.MIDELEG, 0x202);
        Steps.done("by SIP", z, Code.control(6, 5, Code.SIP, 2));
        Check.due("what was read", z.get(5), 0x200);
        Steps.stored(z, 2, Steps.enable(1), 0);
        Check.due("SIP writes bit 1 alone", z.control(Code.MIP), 2);
    }
}
