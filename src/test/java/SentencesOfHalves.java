/** What stands under 'Terms' of the instructions of 16 bits. Their bits are put by the document's own lists. */
final class SentencesOfHalves {
    private static final long RAM = Steps.RAM;
    private static final long DATA = Steps.DATA;
    private static final String KIND = "INSTRUCTIONS of 16 bits";
    private static final int[] SIX_BITS = {-32, -31, -17, -16, -2, -1, 0, 1, 2, 15, 16, 30, 31};
    private static final int[] ALL = {0, 1, 2, 3, 8, 15, 16, 30, 31};

    private SentencesOfHalves() {
    }

    static void run() {
        widths();
        fields();
        notTold();
        stackAddresses();
        loadsOfFour();
        loadsOfEight();
        stores();
        sums();
        narrowSums();
        constants();
        stackSums();
        upperConstants();
        computing();
        jumps();
        branches();
        shifts();
        stackLoadsOfFour();
        stackLoadsOfEight();
        registerJumps();
        registerMoves();
        linksAndSums();
        stackStoresOfFour();
        stackStoresOfEight();
    }

    /** The value's bits at the places of the list, its highest bit at the first of them. */
    private static int put(String list, int value) {
        int h = 0;
        int left = 0;
        String[] parts = list.split(", ");
        for (int k = parts.length - 1; k >= 0; k--) {
            String[] ends = parts[k].split("\\.\\.");
            int low = Integer.parseInt(ends[ends.length - 1]);
            int high = Integer.parseInt(ends[0]);
            for (int bit = low; bit <= high; bit++) {
                h |= (value >> left & 1) << bit;
                left++;
            }
        }
        return h;
    }

    /** H[1..0] and H[15..13]. */
    private static int kind(int low, int high) {
        return high << 13 | low;
    }

    private static int r(int register) {
        return register << 7;
    }

    private static int s(int register) {
        return register << 2;
    }

    private static int six(int value) {
        return put("12, 6..2", value);
    }

    /** 0, 1, each power of two and all bits of so many. */
    private static int[] powers(int bits) {
        int[] all = new int[bits + 3];
        for (int k = 0; k < bits; k++) {
            all[k] = 1 << k;
        }
        all[bits] = (1 << bits) - 1;
        all[bits + 1] = 0x5555 & (1 << bits) - 1;
        return all;
    }

    private static void done(String what, HartBoard x, int h) {
        Check.due(what + " (" + Steps.hex(h) + ") is done", Code.half(x, h), 1);
    }

    /** A board whose registers are all different, x2 and x9 being DATA. */
    private static HartBoard board() {
        HartBoard x = Steps.board();
        for (int k = 1; k < 32; k++) {
            x.set(k, value(k));
        }
        x.poke(RAM + 2, 8, -1);
        return x;
    }

    private static long value(int register) {
        return register == 0 ? 0 : register == 2 || register == 9 ? DATA : 0xf1e2d3c4b5a69788L + register * 0x0101010101010107L;
    }

    /** The instruction gives the register the value, and no other register changes. */
    private static void due(String what, int h, int register, long want) {
        HartBoard x = board();
        done(what, x, h);
        for (int k = 0; k < 32; k++) {
            Check.due(what + " (" + Steps.hex(h) + "): x" + k, x.get(k), k == register && k != 0 ? want : value(k));
        }
        Check.due(what + ": PC", x.get(32), RAM + 2);
    }

    private static void illegal(int h) {
        HartBoard x = board();
        x.poke(RAM, 2, h);
        x.set(32, RAM);
        Steps.traps(Steps.hex(h), x, 2, h);
    }

    private static void widths() {
        Sentence.of(14, KIND, "H: each is one of 32 bits, and PC goes on by 2 (so rd = PC + 2 where it links).");
        HartBoard x = board();
        for (int k = 0; k < 5; k++) {
            x.poke(RAM + 2 * k, 2, kind(1, 2) | r(10 + k) | six(k + 1));
        }
        x.set(32, RAM);
        Check.due("five of them", x.step(5), 5);
        Check.due("PC", x.get(32), RAM + 10);
        Check.due("x14", x.get(14), 5);
        x.poke(DATA + 6, 2, kind(2, 4) | 1 << 12 | r(9));
        x.set(32, DATA + 6);
        Check.due("one that links", x.step(1), 1);
        Check.due("rd", x.get(1), DATA + 8);
    }

    private static void fields() {
        Sentence.of(14, KIND, "r = H[11..7], s = H[6..2]; r' = 8 + H[9..7], s' = 8 + H[4..2]; i6 = SX(H[12], H[6..2], 6); u6"
            + " the same without a sign.");
        for (int register = 0; register < 32; register++) {
            due("r", kind(1, 2) | r(register) | six(5), register, 5);
            if (register != 0) {
                due("s", kind(2, 4) | r(12) | s(register), 12, value(register));
            }
        }
        for (int k = 0; k < 8; k++) {
            int other = (k + 3) % 8;
            due("r' and s'", kind(1, 4) | 3 << 10 | 1 << 5 | k << 7 | other << 2, 8 + k, value(8 + k) ^ value(8 + other));
        }
        for (int k = -32; k < 32; k++) {
            due("i6", kind(1, 2) | r(12) | six(k), 12, k);
            due("u6", kind(2, 0) | r(12) | six(k), 12, value(12) << (k & 63));
        }
    }

    private static void notTold() {
        Sentence.of(14, KIND, "By H[1..0] and H[15..13]; what is not told is illegal (H = 0, too):");
        illegal(0);
        for (int rest : new int[] {0, 4, 0x80, 0x1000, 0x1554, 0x1ffc}) {
            for (int high : new int[] {1, 4, 5}) {
                illegal(kind(0, high) | rest);
            }
            illegal(kind(2, 1) | rest);
            illegal(kind(2, 5) | rest);
        }
    }

    private static void stackAddresses() {
        Sentence.of(14, KIND, "0, 0: s' = x2 + H[10..7, 12..11, 5, 6] * 4 (in this order; not 0).");
        for (int v : powers(8)) {
            for (int k : new int[] {0, 3, 7}) {
                int h = kind(0, 0) | put("10..7, 12..11, 5, 6", v) | k << 2;
                if (v == 0) {
                    illegal(h);
                } else {
                    due("x2 + " + v, h, 8 + k, DATA + 4L * v);
                }
            }
        }
    }

    /** Words that differ, wherever a load may reach. */
    private static HartBoard withWords() {
        HartBoard x = board();
        for (int k = -1; k < 66; k++) {
            x.poke(DATA + 8 * k, 8, word(8 * k));
        }
        return x;
    }

    private static long word(int at) {
        return 0x8000000080000000L + (at + 4L << 32) + at;
    }

    private static void dueLoaded(int h, int register, int at, int n) {
        HartBoard x = withWords();
        done("a load", x, h);
        long want = n == 8 ? word(at) : (int) (word(at & -8) >> 8 * (at & 7));
        Check.due("a load of " + n + " at " + at + " (" + Steps.hex(h) + ")", x.get(register), want);
        Check.due("PC", x.get(32), RAM + 2);
    }

    private static void dueStored(int h, int register, int at, int n) {
        HartBoard x = withWords();
        long stored = register == 0 ? 0 : x.get(register);
        done("a store", x, h);
        for (int k = at / 8 * 8 - 8; k <= at + 8; k += 8) {
            long want = word(k / 8 * 8);
            if (k == (at & -8)) {
                long mask = n == 8 ? -1 : 0xffffffffL << 8 * (at & 7);
                want = want & ~mask | stored << 8 * (at & 7) & mask;
            }
            Check.due("a store of " + n + " at " + at + " (" + Steps.hex(h) + "), word " + k, x.peek(DATA + k), want);
        }
    }

    private static void loadsOfFour() {
        Sentence.of(14, KIND, "0, 2: s' = load of 4 (signed) at r' + H[5, 12..10, 6] * 4.");
        for (int v : powers(5)) {
            dueLoaded(kind(0, 2) | 1 << 7 | put("5, 12..10, 6", v) | 4 << 2, 12, 4 * v, 4);
        }
        dueLoaded(kind(0, 2) | 1 << 7 | 1 << 2, 9, 0, 4);
        HartBoard x = board();
        x.set(9, DATA + 2);
        x.poke(RAM, 2, kind(0, 2) | 1 << 7);
        x.set(32, RAM);
        Steps.traps("a misaligned one", x, 4, DATA + 2);
    }

    private static void loadsOfEight() {
        Sentence.of(14, KIND, "0, 3: of 8 at r' + H[6..5, 12..10] * 8.");
        for (int v : powers(5)) {
            dueLoaded(kind(0, 3) | 1 << 7 | put("6..5, 12..10", v) | 4 << 2, 12, 8 * v, 8);
        }
    }

    private static void stores() {
        Sentence.of(14, KIND, "0, 6 and 0, 7: s' is stored there likewise.");
        for (int v : powers(5)) {
            dueStored(kind(0, 6) | 1 << 7 | put("5, 12..10, 6", v) | 4 << 2, 12, 4 * v, 4);
            dueStored(kind(0, 7) | 1 << 7 | put("6..5, 12..10", v) | 4 << 2, 12, 8 * v, 8);
        }
        HartBoard x = board();
        x.set(9, Steps.END);
        x.poke(RAM, 2, kind(0, 7) | 1 << 7);
        x.set(32, RAM);
        Steps.traps("one behind RAM", x, 7, Steps.END);
    }

    private static void sums() {
        Sentence.of(14, KIND, "1, 0: r = r + i6.");
        for (int register : ALL) {
            for (int v : SIX_BITS) {
                due("r + " + v, kind(1, 0) | r(register) | six(v), register, value(register) + v);
            }
        }
        HartBoard x = board();
        x.set(12, Long.MAX_VALUE);
        done("a sum that wraps", x, kind(1, 0) | r(12) | six(1));
        Check.due("it wraps", x.get(12), Long.MIN_VALUE);
    }

    private static void narrowSums() {
        Sentence.of(14, KIND, "1, 1 (r not 0): r = SX(r + i6, 32).");
        for (int register : ALL) {
            for (int v : SIX_BITS) {
                int h = kind(1, 1) | r(register) | six(v);
                if (register == 0) {
                    illegal(h);
                } else {
                    due("r + " + v, h, register, (int) (value(register) + v));
                }
            }
        }
        HartBoard x = board();
        x.set(12, Integer.MAX_VALUE);
        done("a sum that wraps", x, kind(1, 1) | r(12) | six(1));
        Check.due("it wraps", x.get(12), Integer.MIN_VALUE);
    }

    private static void constants() {
        Sentence.of(14, KIND, "1, 2: r = i6.");
        for (int register : ALL) {
            for (int v : SIX_BITS) {
                due("r = " + v, kind(1, 2) | r(register) | six(v), register, v);
            }
        }
    }

    private static void stackSums() {
        Sentence.of(14, KIND, "1, 3: r 2: x2 = x2 + SX(H[12, 4..3, 5, 2, 6], 6) * 16 (not 0);");
        for (int v : SIX_BITS) {
            int h = kind(1, 3) | r(2) | put("12, 4..3, 5, 2, 6", v);
            if (v == 0) {
                illegal(h);
            } else {
                due("x2 + 16 * " + v, h, 2, DATA + 16L * v);
            }
        }
        for (int k = 0; k < 5; k++) {
            due("x2 + 16 * 2^" + k, kind(1, 3) | r(2) | put("12, 4..3, 5, 2, 6", 1 << k), 2, DATA + (16L << k));
        }
    }

    private static void upperConstants() {
        Sentence.of(14, KIND, "other r: r = i6 * 4096 (i6 not 0).");
        for (int register : ALL) {
            for (int v : SIX_BITS) {
                int h = kind(1, 3) | r(register) | six(v);
                if (v == 0) {
                    illegal(h);
                } else if (register != 2) {
                    due("r = 4096 * " + v, h, register, 4096L * v);
                }
            }
        }
    }

    private static void computing() {
        Sentence.of(14, KIND, "1, 4: by H[11..10]: 0 r' down with 0s by u6, 1 with its highest bit, 2 r' and i6,");
        for (int k = 0; k < 8; k++) {
            long a = value(8 + k);
            for (int v : SIX_BITS) {
                due("down with 0s", kind(1, 4) | k << 7 | six(v), 8 + k, a >>> (v & 63));
                due("down with its highest bit", kind(1, 4) | 1 << 10 | k << 7 | six(v), 8 + k, a >> (v & 63));
                due("and", kind(1, 4) | 2 << 10 | k << 7 | six(v), 8 + k, a & v);
            }
        }
        Sentence.of(14, KIND, "3: with H[12] 0, by H[6..5]: r' - s', xor, or, and;");
        for (int pair = 0; pair < 64; pair++) {
            long a = value(8 + pair / 8);
            long b = value(8 + pair % 8);
            int h = kind(1, 4) | 3 << 10 | pair / 8 << 7 | pair % 8 << 2;
            due("a difference", h, 8 + pair / 8, a - b);
            due("xor", h | 1 << 5, 8 + pair / 8, a ^ b);
            due("or", h | 2 << 5, 8 + pair / 8, a | b);
            due("and", h | 3 << 5, 8 + pair / 8, a & b);
        }
        Sentence.of(14, KIND, "with H[12] 1: 0 SX(r' - s', 32), 1 SX(r' + s', 32).");
        for (int pair = 0; pair < 64; pair++) {
            long a = value(8 + pair / 8);
            long b = value(8 + pair % 8);
            int h = kind(1, 4) | 1 << 12 | 3 << 10 | pair / 8 << 7 | pair % 8 << 2;
            due("a difference of 32 bits", h, 8 + pair / 8, (int) (a - b));
            due("a sum of 32 bits", h | 1 << 5, 8 + pair / 8, (int) (a + b));
            illegal(h | 2 << 5);
            illegal(h | 3 << 5);
        }
    }

    private static void jumps() {
        Sentence.of(14, KIND, "1, 5: PC = PC + SX(H[12, 8, 10..9, 6, 7, 2, 11, 5..3], 11) * 2.");
        int[] values = {0, 1, 2, 4, 8, 16, 32, 64, 128, 256, 512, 1023, -1, -2, -512, -513, -1023, -1024};
        for (int v : values) {
            HartBoard x = board();
            x.poke(DATA, 2, kind(1, 5) | put("12, 8, 10..9, 6, 7, 2, 11, 5..3", v));
            x.set(32, DATA);
            Check.due("a jump", x.step(1), 1);
            Check.due("a jump by 2 * " + v, x.get(32), DATA + 2 * v);
            Check.due("it does not link", x.get(1), value(1));
        }
    }

    private static void branches() {
        Sentence.of(14, KIND, "1, 6 and 1, 7: PC = PC + SX(H[12, 6..5, 2, 11..10, 4..3], 8) * 2, if r' is 0, is not 0.");
        int[] values = {0, 2, 4, 8, 16, 32, 64, 127, -1, -64, -65, -127, -128};
        for (int v : values) {
            for (long a : new long[] {0, 1, -1, Long.MIN_VALUE, 1L << 32}) {
                for (int not = 0; not < 2; not++) {
                    HartBoard x = board();
                    x.set(12, a);
                    x.poke(DATA, 2, kind(1, 6 + not) | put("12, 6..5, 2, 11..10, 4..3", v) | 4 << 7);
                    x.set(32, DATA);
                    Check.due("a branch", x.step(1), 1);
                    boolean taken = (a == 0) == (not == 0);
                    Check.due("a branch by 2 * " + v + " of " + a, x.get(32), taken ? DATA + 2 * v : DATA + 2);
                }
            }
        }
        for (int k = 0; k < 8; k++) {
            HartBoard x = board();
            x.set(8 + k, 0);
            done("a branch of 0", x, kind(1, 6) | put("12, 6..5, 2, 11..10, 4..3", 8) | k << 7);
            Check.due("if x" + (8 + k) + " is 0", x.get(32), RAM + 16);
            done("a branch of 0", x, kind(1, 7) | put("12, 6..5, 2, 11..10, 4..3", 8) | k << 7);
            Check.due("if x" + (8 + k) + " is not 0", x.get(32), RAM + 2);
        }
    }

    private static void shifts() {
        Sentence.of(14, KIND, "2, 0: r = r up by u6.");
        for (int register : ALL) {
            for (int v : new int[] {0, 1, 31, 32, 33, 62, 63}) {
                due("up by " + v, kind(2, 0) | r(register) | six(v), register, value(register) << v);
            }
        }
    }

    private static void stackLoadsOfFour() {
        Sentence.of(14, KIND, "2, 2 (r not 0): load of 4 at x2 + H[3..2, 12, 6..4] * 4.");
        for (int v : powers(6)) {
            int h = kind(2, 2) | put("3..2, 12, 6..4", v);
            dueLoaded(h | r(1), 1, 4 * v, 4);
            dueLoaded(h | r(31), 31, 4 * v, 4);
            dueLoaded(h | r(2), 2, 4 * v, 4);
            illegal(h);
        }
    }

    private static void stackLoadsOfEight() {
        Sentence.of(14, KIND, "2, 3 (r not 0): of 8 at x2 + H[4..2, 12, 6..5] * 8.");
        for (int v : powers(6)) {
            int h = kind(2, 3) | put("4..2, 12, 6..5", v);
            dueLoaded(h | r(1), 1, 8 * v, 8);
            dueLoaded(h | r(31), 31, 8 * v, 8);
            illegal(h);
        }
    }

    private static void registerJumps() {
        Sentence.of(14, KIND, "2, 4: H[12] 0: s 0 (r not 0): PC = r without bit 0;");
        for (int register = 1; register < 32; register++) {
            for (long to : new long[] {DATA, DATA + 1, -1, 0}) {
                HartBoard x = board();
                x.set(register, to);
                done("a jump", x, kind(2, 4) | r(register));
                Check.due("PC", x.get(32), to & ~1L);
                Check.due("it does not link", x.get(1), register == 1 ? to : value(1));
            }
        }
        illegal(kind(2, 4));
    }

    private static void registerMoves() {
        Sentence.of(14, KIND, "else r = s;");
        for (int register : ALL) {
            for (int other : ALL) {
                if (other != 0) {
                    due("r = s", kind(2, 4) | r(register) | s(other), register, value(other));
                }
            }
        }
    }

    private static void linksAndSums() {
        Sentence.of(14, KIND, "H[12] 1: r and s 0: break; s 0: x1 = PC + 2, PC = r (as it was) without bit 0; else r = r + s.");
        HartBoard stop = board();
        stop.poke(DATA, 2, kind(2, 4) | 1 << 12);
        stop.set(32, DATA);
        Steps.traps("a break", stop, 3, DATA);
        for (int register = 1; register < 32; register++) {
            for (long to : new long[] {DATA, DATA + 1, -1}) {
                HartBoard x = board();
                x.set(register, to);
                done("a jump that links", x, kind(2, 4) | 1 << 12 | r(register));
                Check.due("PC by x" + register, x.get(32), to & ~1L);
                Check.due("x1", x.get(1), RAM + 2);
            }
        }
        for (int register : ALL) {
            for (int other : ALL) {
                if (other != 0) {
                    due("r + s", kind(2, 4) | 1 << 12 | r(register) | s(other), register, value(register) + value(other));
                }
            }
        }
    }

    private static void stackStoresOfFour() {
        Sentence.of(14, KIND, "2, 6: s is stored, 4 bytes at x2 + H[8..7, 12..9] * 4.");
        for (int v : powers(6)) {
            int h = kind(2, 6) | put("8..7, 12..9", v);
            for (int register : new int[] {0, 1, 2, 31}) {
                dueStored(h | s(register), register, 4 * v, 4);
            }
        }
    }

    private static void stackStoresOfEight() {
        Sentence.of(14, KIND, "2, 7: 8 bytes at x2 + H[9..7, 12..10] * 8.");
        for (int v : powers(6)) {
            int h = kind(2, 7) | put("9..7, 12..10", v);
            for (int register : new int[] {0, 1, 2, 31}) {
                dueStored(h | s(register), register, 8 * v, 8);
            }
        }
    }
}
