/** Promise 14: what instructions of 32 bits compute, where they go, what is illegal. */
public final class ComputeTest {
    private static final long MIN = Long.MIN_VALUE;
    private static final long MAX = Long.MAX_VALUE;
    private static final long MIN32 = -0x80000000L;

    private static void due(int code, int f, int g, long a, long b, long want) {
        HartBoard x = new HartBoard(16);
        x.set(6, a);
        x.set(7, b);
        String what = "code " + Integer.toHexString(code) + " f " + f + " g " + g + " of " + a + ", " + b;
        Check.due(what + " is done", Code.one(x, Code.r(code, f, g, 5, 6, 7)), 1);
        Check.due(what, x.get(5), want);
        Check.due(what + ": PC", x.get(32), Code.RAM + 4);
    }

    private static void dueConstant(int code, int f, long a, int constant, long want) {
        HartBoard x = new HartBoard(16);
        x.set(6, a);
        String what = "code " + Integer.toHexString(code) + " f " + f + " of " + a + " and " + constant;
        Check.due(what + " is done", Code.one(x, Code.i(code, f, 5, 6, constant)), 1);
        Check.due(what, x.get(5), want);
    }

    private static void dueIllegal(int w) {
        HartBoard x = new HartBoard(16);
        x.order(0x305, Code.RAM + 0x800);
        String what = "illegal " + Integer.toHexString(w);
        Check.due(what, Code.one(x, w), 0);
        Check.due(what + ": CAUSE", x.control(0x342), 2);
        Check.due(what + ": VALUE", x.control(0x343), w & 0xffffffffL);
        Check.due(what + ": EPC", x.control(0x341), Code.RAM);
        Check.due(what + ": PC", x.get(32), Code.RAM + 0x800);
    }

    private static void registers() {
        due(0x33, 0, 0, MAX, 1, MIN);
        due(0x33, 1, 0, 3, 0xffffffffffffff7fL, MIN);
        due(0x33, 2, 0, -1, 0, 1);
        due(0x33, 2, 0, 0, -1, 0);
        due(0x33, 2, 0, 5, 5, 0);
        due(0x33, 3, 0, -1, 0, 0);
        due(0x33, 3, 0, 0, -1, 1);
        due(0x33, 3, 0, MAX, MIN, 1);
        due(0x33, 4, 0, 0x0ff0, 0x00ff, 0x0f0f);
        due(0x33, 5, 0, -1, 64 + 60, 15);
        due(0x33, 6, 0, 0x0ff0, 0x00ff, 0x0fff);
        due(0x33, 7, 0, 0x0ff0, 0x00ff, 0x00f0);
        due(0x33, 0, 32, MIN, 1, MAX);
        due(0x33, 5, 32, MIN, 63, -1);
        due(0x33, 5, 32, MIN, 64 + 1, MIN >> 1);
        due(0x3b, 0, 0, 0x7fffffff, 1, MIN32);
        due(0x3b, 0, 0, 0x100000000L, 0x200000005L, 5);
        due(0x3b, 1, 0, 1, 31, MIN32);
        due(0x3b, 1, 0, 1, 32 + 3, 8);
        due(0x3b, 5, 0, -1, 4, 0x0fffffff);
        due(0x3b, 5, 0, -1, 32, -1);
        due(0x3b, 0, 32, MIN32, 1, 0x7fffffff);
        due(0x3b, 5, 32, 0x80000000L, 4, -0x8000000L);
        due(0x3b, 5, 32, 0x7fffffffffffffffL, 4, -1);
    }

    private static void products() {
        due(0x33, 0, 1, MAX, 2, -2);
        due(0x33, 1, 1, MIN, MIN, 1L << 62);
        due(0x33, 1, 1, -1, 1, -1);
        due(0x33, 1, 1, -1, -1, 0);
        due(0x33, 1, 1, 0x123456789abcdef0L, 0x0fedcba987654321L, 0x121fa00ad77d742L);
        due(0x33, 1, 1, 0, 5, 0);
        due(0x33, 1, 1, 5, 0, 0);
        due(0x33, 1, 1, 0, -5, 0);
        due(0x33, 2, 1, 0, -5, 0);
        due(0x33, 2, 1, -5, 0, 0);
        due(0x33, 2, 1, -1, -1, -1);
        due(0x33, 2, 1, MIN, -1, MIN);
        due(0x33, 2, 1, 2, -1, 1);
        due(0x33, 3, 1, -1, -1, -2);
        due(0x33, 3, 1, MIN, MIN, 1L << 62);
        due(0x33, 3, 1, 0xffffffffL, 0xffffffffL, 0);
        due(0x33, 4, 1, -7, 2, -3);
        due(0x33, 4, 1, -7, 0, -1);
        due(0x33, 4, 1, MIN, -1, MIN);
        due(0x33, 5, 1, -7, 2, 0x7ffffffffffffffcL);
        due(0x33, 5, 1, -7, 0, -1);
        due(0x33, 5, 1, -1, -1, 1);
        due(0x33, 5, 1, -2, -1, 0);
        due(0x33, 5, 1, MIN, MAX, 1);
        due(0x33, 5, 1, -1, 3, 0x5555555555555555L);
        due(0x33, 6, 1, -7, 2, -1);
        due(0x33, 6, 1, 7, -2, 1);
        due(0x33, 6, 1, -7, 0, -7);
        due(0x33, 6, 1, MIN, -1, 0);
        due(0x33, 7, 1, -7, 2, 1);
        due(0x33, 7, 1, -7, 0, -7);
        due(0x33, 7, 1, -1, 10, 5);
        due(0x33, 5, 1, -7, 1, -7);
        due(0x33, 5, 1, 7, 1, 7);
        due(0x33, 5, 1, 0, -7, 0);
        due(0x33, 5, 1, 0, 7, 0);
        due(0x33, 7, 1, -7, 1, 0);
        due(0x33, 7, 1, 7, 1, 0);
        due(0x33, 7, 1, 7, -1, 7);
        due(0x33, 7, 1, -1, MIN, MAX);
        due(0x3b, 0, 1, 0x10000, 0x8000, MIN32);
        due(0x3b, 4, 1, 0x1fffffff9L, 2, -3);
        due(0x3b, 4, 1, 5, 0x100000000L, -1);
        due(0x3b, 4, 1, MIN32, -1, MIN32);
        due(0x3b, 5, 1, -1, 2, 0x7fffffff);
        due(0x3b, 5, 1, -1, 1, -1);
        due(0x3b, 5, 1, 5, 0, -1);
        due(0x3b, 6, 1, -7, 2, -1);
        due(0x3b, 6, 1, 0xffffffffL, 0, -1);
        due(0x3b, 6, 1, MIN32, -1, 0);
        due(0x3b, 7, 1, -1, 16, 15);
        due(0x3b, 7, 1, 0x80000000L, 0, MIN32);
        due(0x3b, 7, 1, -2, -1, -2);
    }

    private static void constants() {
        dueConstant(0x13, 0, MAX, 1, MIN);
        dueConstant(0x13, 0, 0, -2048, -2048);
        dueConstant(0x13, 2, -5, -4, 1);
        dueConstant(0x13, 3, 5, -1, 1);
        dueConstant(0x13, 3, -1, -1, 0);
        dueConstant(0x13, 4, 0x0f, -1, ~0x0fL);
        dueConstant(0x13, 6, 0x10, -2048, -2032);
        dueConstant(0x13, 7, -1, -2048, -2048);
        dueConstant(0x13, 1, 1, 63, MIN);
        dueConstant(0x13, 5, MIN, 63, 1);
        dueConstant(0x13, 5, MIN, 0x400 | 63, -1);
        dueConstant(0x1b, 0, 0x7fffffff, 1, MIN32);
        dueConstant(0x1b, 1, 1, 31, MIN32);
        dueConstant(0x1b, 5, -1, 1, 0x7fffffff);
        dueConstant(0x1b, 5, 0x80000000L, 0x400 | 31, -1);
        HartBoard x = new HartBoard(16);
        Code.one(x, 0x80000 << 12 | 5 << 7 | 0x37);
        Check.due("U", x.get(5), MIN32);
        Code.one(x, 0xfffff << 12 | 5 << 7 | 0x17);
        Check.due("PC + U", x.get(5), Code.RAM - 4096);
        Code.one(x, Code.addi(0, 0, 5));
        Check.due("x0 stays 0", x.get(0), 0);
    }

    private static void jumps() {
        HartBoard x = new HartBoard(16);
        long base = Code.RAM + 0x2000;
        for (int offset : new int[] {0, 2, -2, 4, 0x7fe, 0x800, 0xffe, 0x1000, 0x5554, 0xaaaa, -0x1000, 0xffffe, -0x100000}) {
            Code.begin(x, base, Code.jal(1, offset));
            Check.due("a jump is done", x.step(1), 1);
            Check.due("jump by " + offset, x.get(32), base + offset);
            Check.due("its link", x.get(1), base + 4);
        }
        x.set(5, base + 0x101);
        Code.begin(x, base, Code.jalr(5, 5, -16));
        Check.due("a jump by register", x.step(1), 1);
        Check.due("without bit 0", x.get(32), base + 0xf0);
        Check.due("its link", x.get(5), base + 4);
        int[] f = {0, 1, 4, 5, 6, 7};
        long[][] pairs = {{1, 1}, {1, 2}, {2, 1}, {-1, 1}, {1, -1}, {MIN, MAX}};
        int[][] taken = {{1, 0, 0, 0, 0, 0}, {0, 1, 1, 1, 1, 1}, {0, 1, 0, 1, 0, 1}, {1, 0, 1, 0, 1, 0}, {0, 1, 0, 0, 1, 0},
            {1, 0, 1, 1, 0, 1}};
        for (int k = 0; k < f.length; k++) {
            x = new HartBoard(16);
            for (int j = 0; j < pairs.length; j++) {
                x.set(5, pairs[j][0]);
                x.set(6, pairs[j][1]);
                for (int offset : new int[] {2, -4096, 4094, 0x554, -0x2aa}) {
                    Code.begin(x, base, Code.branch(f[k], 5, 6, offset));
                    x.step(1);
                    Check.due("branch " + f[k] + " of pair " + j, x.get(32), base + (taken[k][j] == 1 ? offset : 4));
                }
            }
        }
    }

    private static void illegalOnes() {
        for (int f = 0; f < 8; f++) {
            for (int g = 0; g < 128; g++) {
                if (g > 1 && !(g == 32 && (f == 0 || f == 5))) {
                    dueIllegal(Code.r(0x33, f, g, 5, 6, 7));
                    dueIllegal(Code.r(0x3b, f, g, 5, 6, 7));
                }
            }
        }
        for (int f : new int[] {2, 3, 4, 6, 7}) {
            dueIllegal(Code.r(0x3b, f, 0, 5, 6, 7));
            dueIllegal(Code.i(0x1b, f, 5, 6, 7));
        }
        for (int f = 1; f < 4; f++) {
            dueIllegal(Code.r(0x3b, f, 1, 5, 6, 7));
        }
        for (int kind = 1; kind < 64; kind++) {
            dueIllegal(Code.i(0x13, 1, 5, 6, kind << 6));
            if (kind != 16) {
                dueIllegal(Code.i(0x13, 5, 5, 6, kind << 6));
            }
        }
        dueIllegal(Code.i(0x1b, 1, 5, 6, 0x20));
        dueIllegal(Code.i(0x1b, 5, 5, 6, 0x20));
        dueIllegal(Code.i(0x1b, 5, 5, 6, 0x420));
        dueIllegal(Code.branch(2, 0, 0, 8));
        dueIllegal(Code.branch(3, 0, 0, 8));
        dueIllegal(Code.load(7, 5, 0, 0));
        for (int f = 4; f < 8; f++) {
            dueIllegal(Code.store(f, 5, 0, 0));
        }
        for (int f = 1; f < 8; f++) {
            dueIllegal(Code.i(0x67, f, 5, 6, 0));
        }
        for (int f = 2; f < 8; f++) {
            dueIllegal(Code.i(0x0f, f, 0, 0, 0));
        }
        boolean[] told = new boolean[128];
        for (int code : new int[] {0x37, 0x17, 0x6f, 0x67, 0x63, 0x03, 0x23, 0x13, 0x1b, 0x33, 0x3b, 0x2f, 0x0f, 0x73}) {
            told[code] = true;
        }
        for (int code = 3; code < 128; code += 4) {
            if (!told[code]) {
                dueIllegal(code | 0x12345 << 7);
            }
        }
        dueIllegal(-1);
        dueIllegal(Code.control(4, 5, 0x340, 6));
        dueIllegal(Code.ECALL | 1 << 7);
        dueIllegal(Code.EBREAK | 1 << 15);
        dueIllegal(Code.MRET | 1 << 7);
        dueIllegal(Code.WFI | 1 << 21);
        dueIllegal(Code.SFENCE | 1 << 7);
        dueIllegal(0x00200073);
    }

    private static void numberOfSteps() {
        HartBoard x = new HartBoard(16);
        for (int n : new int[] {-1, 4097, Integer.MIN_VALUE, Integer.MAX_VALUE}) {
            Check.dueIllegalArgument("step " + n, () -> x.step(n));
        }
        Check.due("wrong ones change nothing", x.control(0xb00), 0);
        Check.due("no step", x.step(0), 0);
        Check.due("CYCLE", x.control(0xb00), 0);
        Code.begin(x, Code.RAM, Code.addi(5, 5, 1), Code.jal(0, -4));
        Check.due("4096 steps", x.step(4096), 4096);
        Check.due("a loop", x.get(5), 2048);
        Check.due("CYCLE", x.control(0xb00), 4096);
        x.order(0x305, Code.RAM + 0x100);
        Code.begin(x, Code.RAM, Code.addi(5, 0, 1), Code.ECALL);
        Code.put(x, Code.RAM + 0x100, Code.addi(6, 0, 2), Code.FENCE, Code.FENCE | 1 << 12, Code.ECALL);
        Check.due("traps are not counted", x.step(6), 4);
        Check.due("RETIRED", x.control(0xb02), 4100);
        Check.due("traps", x.look(3), 2);
    }

    public static void main(String[] args) {
        registers();
        products();
        constants();
        jumps();
        illegalOnes();
        numberOfSteps();
        Check.end();
    }
}
