/** Writes instructions down, and puts them onto a board. */
final class Code {
    static final long RAM = 0x80000000L;

    static final int MSTATUS = 0x300;
    static final int MEDELEG = 0x302;
    static final int MIDELEG = 0x303;
    static final int MIE = 0x304;
    static final int MTVEC = 0x305;
    static final int MEPC = 0x341;
    static final int MCAUSE = 0x342;
    static final int MTVAL = 0x343;
    static final int MIP = 0x344;
    static final int SSTATUS = 0x100;
    static final int SIE = 0x104;
    static final int STVEC = 0x105;
    static final int SEPC = 0x141;
    static final int SCAUSE = 0x142;
    static final int STVAL = 0x143;
    static final int SIP = 0x144;
    static final int SATP = 0x180;
    static final int CYCLE = 0xb00;
    static final int RETIRED = 0xb02;

    static final int ECALL = 0x73;
    static final int EBREAK = 0x100073;
    static final int MRET = 0x30200073;
    static final int SRET = 0x10200073;
    static final int WFI = 0x10500073;
    static final int FENCE = 0x0f;
    static final int SFENCE = 9 << 25 | 0x73;

    private Code() {
    }

    static int i(int code, int f, int rd, int rs1, int constant) {
        return constant << 20 | rs1 << 15 | f << 12 | rd << 7 | code;
    }

    static int r(int code, int f, int g, int rd, int rs1, int rs2) {
        return g << 25 | rs2 << 20 | rs1 << 15 | f << 12 | rd << 7 | code;
    }

    static int addi(int rd, int rs1, int constant) {
        return i(0x13, 0, rd, rs1, constant);
    }

    static int load(int f, int rd, int rs1, int offset) {
        return i(0x03, f, rd, rs1, offset);
    }

    static int store(int f, int rs2, int rs1, int offset) {
        return (offset >> 5 & 127) << 25 | rs2 << 20 | rs1 << 15 | f << 12 | (offset & 31) << 7 | 0x23;
    }

    static int branch(int f, int rs1, int rs2, int offset) {
        return (offset >> 12 & 1) << 31 | (offset >> 5 & 63) << 25 | rs2 << 20 | rs1 << 15 | f << 12
            | (offset >> 1 & 15) << 8 | (offset >> 11 & 1) << 7 | 0x63;
    }

    static int jal(int rd, int offset) {
        return (offset >> 20 & 1) << 31 | (offset >> 1 & 1023) << 21 | (offset >> 11 & 1) << 20
            | (offset >> 12 & 255) << 12 | rd << 7 | 0x6f;
    }

    static int jalr(int rd, int rs1, int offset) {
        return i(0x67, 0, rd, rs1, offset);
    }

    static int atomic(int what, int f, int rd, int rs1, int rs2) {
        return what << 27 | rs2 << 20 | rs1 << 15 | f << 12 | rd << 7 | 0x2f;
    }

    /** f: 1, 2, 3 become, with, without the bits of rs1; 5, 6, 7 of its number. */
    static int control(int f, int rd, int number, int rs1) {
        return number << 20 | rs1 << 15 | f << 12 | rd << 7 | 0x73;
    }

    static void put(HartBoard x, long address, int... words) {
        for (int k = 0; k < words.length; k++) {
            x.poke(address + 4L * k, 4, words[k]);
        }
    }

    /** PC goes to the address, and the instructions are put there. */
    static void begin(HartBoard x, long address, int... words) {
        put(x, address, words);
        x.set(32, address);
    }

    /** One instruction of 32 bits at the begin of RAM, one step: how many were no traps. */
    static int one(HartBoard x, int w) {
        begin(x, RAM, w);
        return x.step(1);
    }

    /** One instruction of 16 bits at the begin of RAM, one step. */
    static int half(HartBoard x, int h) {
        x.poke(RAM, 2, h);
        x.set(32, RAM);
        return x.step(1);
    }

    static void feed(HartBoard x, byte[] bytes) {
        for (int k = 0; k < bytes.length; k += 8) {
            int n = Math.min(8, bytes.length - k);
            long v = 0;
            for (int j = n - 1; j >= 0; j--) {
                v = v << 8 | bytes[k + j] & 255;
            }
            x.feed(n, v);
        }
    }
}
