/** Promise 14: instructions of 16 bits. Their bits are written as the usual assembler writes them. */
public final class HalfTest {
    private static HartBoard board() {
        HartBoard x = new HartBoard(16);
        for (int k = 1; k < 32; k++) {
            x.set(k, 0x0101010101010101L * k);
        }
        x.set(2, Code.RAM + 0x1000);
        x.set(9, Code.RAM + 0x1000);
        for (int k = 0; k < 128; k++) {
            x.poke(Code.RAM + 0x1000 + 8 * k, 8, 0x8000000080000000L + k * 0x100000001L);
        }
        x.order(0x305, Code.RAM + 0x800);
        return x;
    }

    private static void due(String what, int h, int register, long want) {
        HartBoard x = board();
        Check.due(what + " is done", Code.half(x, h), 1);
        Check.due(what, x.get(register), want);
        Check.due(what + ": PC", x.get(32), Code.RAM + 2);
    }

    private static void dueStored(String what, int h, int offset, int n, long v) {
        HartBoard x = board();
        x.poke(Code.RAM + 0x1000 + offset - 8, 8, 0);
        x.poke(Code.RAM + 0x1000 + offset, 8, 0);
        Check.due(what + " is done", Code.half(x, h), 1);
        Check.due(what, x.peek(Code.RAM + 0x1000 + offset), n == 4 ? v & 0xffffffffL : v);
        Check.due(what + ": before it", x.peek(Code.RAM + 0x1000 + offset - 8), 0);
    }

    private static void dueJump(String what, int h, long from, long want, long link) {
        HartBoard x = board();
        x.poke(from, 2, h);
        x.set(32, from);
        Check.due(what + " is done", x.step(1), 1);
        Check.due(what, x.get(32), want);
        Check.due(what + ": x1", x.get(1), link);
    }

    private static void dueIllegal(int h) {
        HartBoard x = board();
        x.poke(Code.RAM + 2, 4, -1);
        String what = "illegal " + Integer.toHexString(h);
        Check.due(what, Code.half(x, h), 0);
        Check.due(what + ": CAUSE", x.control(0x342), 2);
        Check.due(what + ": VALUE", x.control(0x343), h);
        Check.due(what + ": EPC", x.control(0x341), Code.RAM);
    }

    private static long word(int at) {
        return (int) (0x80000000L + at / 8);
    }

    private static long both(int at) {
        return 0x8000000080000000L + at / 8 * 0x100000001L;
    }

    private static void loadsAndStores() {
        long x10 = 0x0101010101010101L * 10;
        due("addi x10, x2, 4", 0x0048, 10, Code.RAM + 0x1004);
        due("addi x10, x2, 8", 0x0028, 10, Code.RAM + 0x1008);
        due("addi x10, x2, 16", 0x0808, 10, Code.RAM + 0x1010);
        due("addi x10, x2, 64", 0x0088, 10, Code.RAM + 0x1040);
        due("addi x10, x2, 1020", 0x1fe8, 10, Code.RAM + 0x1000 + 1020);
        due("lw x10, 0(x9)", 0x4088, 10, word(0));
        due("lw x10, 4(x9)", 0x40c8, 10, word(0));
        due("lw x10, 64(x9)", 0x40a8, 10, word(64));
        due("lw x10, 8(x9)", 0x4488, 10, word(8));
        due("lw x10, 124(x9)", 0x5ce8, 10, word(124));
        due("ld x10, 8(x9)", 0x6488, 10, both(8));
        due("ld x10, 64(x9)", 0x60a8, 10, both(64));
        due("ld x10, 128(x9)", 0x60c8, 10, both(128));
        due("ld x10, 248(x9)", 0x7ce8, 10, both(248));
        dueStored("sw x10, 4(x9)", 0xc0c8, 4, 4, x10);
        dueStored("sw x10, 64(x9)", 0xc0a8, 64, 4, x10);
        dueStored("sw x10, 124(x9)", 0xdce8, 124, 4, x10);
        dueStored("sd x10, 8(x9)", 0xe488, 8, 8, x10);
        dueStored("sd x10, 64(x9)", 0xe0a8, 64, 8, x10);
        dueStored("sd x10, 248(x9)", 0xfce8, 248, 8, x10);
        due("lw x31, 4(x2)", 0x4f92, 31, word(4));
        due("lw x31, 32(x2)", 0x5f82, 31, word(32));
        due("lw x31, 64(x2)", 0x4f86, 31, word(64));
        due("lw x31, 252(x2)", 0x5ffe, 31, word(252));
        due("ld x31, 8(x2)", 0x6fa2, 31, both(8));
        due("ld x31, 64(x2)", 0x6f86, 31, both(64));
        due("ld x31, 504(x2)", 0x7ffe, 31, both(504));
        dueStored("sw x10, 4(x2)", 0xc22a, 4, 4, x10);
        dueStored("sw x10, 64(x2)", 0xc0aa, 64, 4, x10);
        dueStored("sw x10, 252(x2)", 0xdfaa, 252, 4, x10);
        dueStored("sd x10, 8(x2)", 0xe42a, 8, 8, x10);
        dueStored("sd x10, 64(x2)", 0xe0aa, 64, 8, x10);
        dueStored("sd x10, 504(x2)", 0xffaa, 504, 8, x10);
    }

    private static void computing() {
        long x10 = 0x0101010101010101L * 10;
        long x11 = 0x0101010101010101L * 11;
        due("addi x0, x0, 0", 0x0001, 0, 0);
        due("addi x10, x10, 31", 0x057d, 10, x10 + 31);
        due("addi x10, x10, -32", 0x1501, 10, x10 - 32);
        due("addi x0, x0, 5", 0x0015, 0, 0);
        due("addiw x10, x10, -1", 0x357d, 10, (int) x10 - 1);
        due("addiw x10, x10, 0", 0x2501, 10, (int) x10);
        due("li x10, -32", 0x5501, 10, -32);
        due("li x10, 31", 0x457d, 10, 31);
        due("addi x2, x2, 496", 0x617d, 2, Code.RAM + 0x1000 + 496);
        due("addi x2, x2, -512", 0x7101, 2, Code.RAM + 0x1000 - 512);
        due("addi x2, x2, 16", 0x6141, 2, Code.RAM + 0x1010);
        due("addi x2, x2, 32", 0x6105, 2, Code.RAM + 0x1020);
        due("addi x2, x2, 64", 0x6121, 2, Code.RAM + 0x1040);
        due("addi x2, x2, 128", 0x6109, 2, Code.RAM + 0x1080);
        due("lui x10, 31", 0x657d, 10, 31 << 12);
        due("lui x10, -32", 0x7501, 10, -32 << 12);
        due("lui x0, 1", 0x6005, 0, 0);
        due("srli x10, x10, 1", 0x8105, 10, x10 >>> 1);
        due("srli x10, x10, 63", 0x917d, 10, 0);
        due("srli x10, x10, 0", 0x8101, 10, x10);
        due("srai x10, x10, 4", 0x8511, 10, x10 >> 4);
        due("andi x10, x10, -1", 0x997d, 10, x10);
        due("andi x10, x10, 8", 0x8921, 10, 8);
        due("sub x10, x10, x11", 0x8d0d, 10, x10 - x11);
        due("xor x10, x10, x11", 0x8d2d, 10, x10 ^ x11);
        due("or x10, x10, x11", 0x8d4d, 10, x10 | x11);
        due("and x10, x10, x11", 0x8d6d, 10, x10 & x11);
        due("subw x10, x10, x11", 0x9d0d, 10, (int) (x10 - x11));
        due("addw x10, x10, x11", 0x9d2d, 10, (int) (x10 + x11));
        due("slli x10, x10, 63", 0x157e, 10, 0);
        due("slli x11, x11, 63", 0x15fe, 11, Long.MIN_VALUE);
        due("slli x11, x11, 0", 0x0582, 11, x11);
        due("slli x0, x0, 3", 0x000e, 0, 0);
        due("mv x10, x11", 0x852e, 10, x11);
        due("mv x0, x11", 0x802e, 0, 0);
        due("add x10, x10, x11", 0x952e, 10, x10 + x11);
        due("add x0, x0, x11", 0x902e, 0, 0);
        HartBoard x = board();
        x.set(10, -16);
        Code.half(x, 0x8511);
        Check.due("srai of a negative number", x.get(10), -1);
    }

    private static void jumps() {
        long at = Code.RAM + 0x2000;
        long x1 = 0x0101010101010101L;
        dueJump("j 2", 0xa009, at, at + 2, x1);
        dueJump("j 16", 0xa801, at, at + 16, x1);
        dueJump("j 32", 0xa005, at, at + 32, x1);
        dueJump("j 64", 0xa081, at, at + 64, x1);
        dueJump("j 128", 0xa041, at, at + 128, x1);
        dueJump("j 256", 0xa201, at, at + 256, x1);
        dueJump("j 512", 0xa401, at, at + 512, x1);
        dueJump("j 1024", 0xa101, at, at + 1024, x1);
        dueJump("j 2046", 0xaffd, at, at + 2046, x1);
        dueJump("j -2048", 0xb001, at, at - 2048, x1);
        HartBoard x = board();
        for (int zero = 0; zero < 2; zero++) {
            x.set(10, zero == 1 ? 0 : 1L << 40);
            int[][] branches = {{0xc109, 2}, {0xc501, 8}, {0xc901, 16}, {0xc105, 32}, {0xc121, 64}, {0xc141, 128},
                {0xcd7d, 254}, {0xd101, -256}};
            for (int[] pair : branches) {
                for (int not = 0; not < 2; not++) {
                    x.poke(at, 2, pair[0] + 0x2000 * not);
                    x.set(32, at);
                    x.step(1);
                    Check.due("branch " + Integer.toHexString(pair[0]) + " not " + not + " zero " + zero, x.get(32),
                        at + (zero != not ? pair[1] : 2));
                }
            }
        }
        dueJump("jr x9", 0x8482, at, Code.RAM + 0x1000, x1);
        dueJump("jalr x9", 0x9482, at, Code.RAM + 0x1000, at + 2);
        dueJump("jr x1", 0x8082, at, x1 & ~1L, x1);
        dueJump("jalr x1", 0x9082, at, x1 & ~1L, at + 2);
    }

    private static void illegalOnes() {
        int[] all = {0, 0x0004, 0x0014, 0x2000, 0x3ffc, 0x8000, 0x9ffc, 0xa000, 0xbffc, 0x2001, 0x3005, 0x6101, 0x6501,
            0x6001, 0x9d4d, 0x9d6d, 0x9c41, 0x8002, 0x4002, 0x5012, 0x6002, 0x7022, 0x2002, 0x3ffe, 0xa002, 0xbffe};
        for (int h : all) {
            dueIllegal(h);
        }
        HartBoard x = board();
        Check.due("break", Code.half(x, 0x9002), 0);
        Check.due("its CAUSE", x.control(0x342), 3);
        Check.due("its VALUE", x.control(0x343), Code.RAM);
    }

    private static void mixedWidths() {
        HartBoard x = board();
        x.poke(Code.RAM, 2, 0x4505);
        x.poke(Code.RAM + 2, 4, Code.addi(11, 10, 5));
        x.poke(Code.RAM + 6, 2, 0x95aa);
        x.set(32, Code.RAM);
        Check.due("three instructions", x.step(3), 3);
        Check.due("x11", x.get(11), 7);
        Check.due("PC", x.get(32), Code.RAM + 8);
    }

    public static void main(String[] args) {
        loadsAndStores();
        computing();
        jumps();
        illegalOnes();
        mixedWidths();
        Check.end();
    }
}
