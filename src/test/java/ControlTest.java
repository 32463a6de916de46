/** Promises 11 and 12: control and order. */
public final class ControlTest {
    /** Number, what it reads when all bits have been written, what it reads when none has. */
    private static final long[][] PLAIN = {
        {0x300, 0x7e19aaL | 10L << 32, 10L << 32}, {0x301, 0x8000000000141105L, 0x8000000000141105L},
        {0x302, 0xb3ff, 0}, {0x303, 0x222, 0}, {0x304, 0xaaa, 0}, {0x305, -3, 0}, {0x306, 7, 0}, {0x340, -1, 0},
        {0x341, -2, 0}, {0x342, -1, 0}, {0x343, -1, 0}, {0x344, 0x222, 0}, {0xb00, -1, 0}, {0xb02, -1, 0},
        {0xf11, 0, 0}, {0xf12, 0, 0}, {0xf13, 0, 0}, {0xf14, 0, 0}, {0x105, -3, 0}, {0x106, 7, 0}, {0x140, -1, 0},
        {0x141, -2, 0}, {0x142, -1, 0}, {0x143, -1, 0}, {0xc00, 0, 0}, {0xc01, 0, 0}, {0xc02, 0, 0},
        {0x100, 0xc0122L | 2L << 32, 2L << 32}, {0x104, 0, 0}, {0x144, 0, 0}, {0x180, 0, 0},
    };

    private static void keptBits() {
        for (long[] row : PLAIN) {
            HartBoard x = new HartBoard(16);
            int number = (int) row[0];
            x.order(number, -1);
            Check.due("all bits of 0x" + Integer.toHexString(number), x.control(number), row[1]);
            for (long[] other : PLAIN) {
                boolean shared = number == 0x300 && other[0] == 0x100 || number == 0x100 && other[0] == 0x300
                    || number == 0xb00 && other[0] == 0xc00 || number == 0xb02 && other[0] == 0xc02;
                if (other[0] != number && !shared) {
                    Check.due("0x" + Long.toHexString(other[0]) + " beside it", x.control((int) other[0]), other[2]);
                }
            }
            x.order(number, 0);
            Check.due("no bits of 0x" + Integer.toHexString(number), x.control(number), row[2]);
        }
    }

    private static void wrongNumbers() {
        HartBoard x = new HartBoard(16);
        HartBoard y = x;
        for (int number = -5; number < 5000; number++) {
            boolean told = false;
            for (long[] row : PLAIN) {
                told |= row[0] == number;
            }
            y = number % 128 == 0 ? new HartBoard(16) : y;
            if (!told) {
                HartBoard board = y;
                int wrong = number;
                Check.dueIllegalArgument("control " + number, () -> board.control(wrong));
                Check.dueIllegalArgument("order " + number, () -> board.order(wrong, 1));
            }
        }
        Check.dueIllegalArgument("control", () -> x.control(Integer.MIN_VALUE));
        Check.dueIllegalArgument("order", () -> x.order(Integer.MAX_VALUE, 0));
        Check.dueIllegalArgument("with bits above", () -> x.control(0x10300));
    }

    private static void statusAndSatp() {
        HartBoard x = new HartBoard(16);
        x.order(0x300, 3 << 11);
        x.order(0x300, 2 << 11 | 2);
        Check.due("MPP stays when 2 is written", x.control(0x300), 10L << 32 | 3 << 11 | 2);
        x.order(0x300, 1 << 11);
        Check.due("MPP 1", x.control(0x300), 10L << 32 | 1 << 11);
        x.order(0x300, 2 << 11);
        Check.due("MPP stays 1", x.control(0x300), 10L << 32 | 1 << 11);
        x.order(0x300, -1);
        x.order(0x100, 0);
        Check.due("SSTATUS writes its own bits alone", x.control(0x300), 10L << 32 | 0x7e19aa & ~0xc0122);
        x.order(0x300, 0);
        x.order(0x100, -1);
        Check.due("SSTATUS in MSTATUS", x.control(0x300), 10L << 32 | 0xc0122);
        x.order(0x180, 8L << 60 | 0x123456789abcdefL);
        Check.due("SATP 8", x.control(0x180), 8L << 60 | 0x123456789abcdefL);
        for (long mode = 1; mode < 16; mode++) {
            if (mode != 8) {
                x.order(0x180, mode << 60 | 5);
                Check.due("SATP stays at a write of " + mode, x.control(0x180), 8L << 60 | 0x123456789abcdefL);
            }
        }
        x.order(0x180, 0xfffffffffffffffL);
        Check.due("SATP 0", x.control(0x180), 0xfffffffffffffffL);
    }

    private static void interruptsOfTheSupervisor() {
        HartBoard x = new HartBoard(16);
        x.order(0x304, -1);
        x.order(0x344, -1);
        Check.due("SIE without MIDELEG", x.control(0x104), 0);
        Check.due("SIP without MIDELEG", x.control(0x144), 0);
        x.order(0x144, 0);
        Check.due("SIP is not written without it", x.control(0x344), 0x222);
        x.order(0x303, 0x202);
        Check.due("SIE with MIDELEG", x.control(0x104), 0x202);
        Check.due("SIP with MIDELEG", x.control(0x144), 0x202);
        x.order(0x104, 0);
        Check.due("SIE written", x.control(0x304), 0x8a8 | 0x20 & 0xaaa);
        x.order(0x144, 0);
        Check.due("SIP written in bit 1 alone", x.control(0x344), 0x220);
        x.order(0x144, -1);
        Check.due("SIP written again", x.control(0x344), 0x222);
        x.order(0x303, 0x220);
        x.order(0x144, 0);
        Check.due("SIP without bit 1 in MIDELEG", x.control(0x344), 0x222);
        x.order(0x104, -1);
        Check.due("SIE written where MIDELEG has it", x.control(0x304), 0x8a8 | 0x220);
    }

    private static void deviceBits() {
        HartBoard x = new HartBoard(16);
        x.set(1, 0x2000000L);
        x.set(2, 0x2004000L);
        x.set(3, -1);
        Code.one(x, Code.store(2, 3, 1, 0));
        Check.due("SOFT in MIP", x.control(0x344), 8);
        Code.one(x, Code.load(6, 4, 1, 0));
        Check.due("only bit 0 of SOFT is kept", x.get(4), 1);
        x.order(0x344, 0);
        Check.due("MIP's bit 3 is not written", x.control(0x344), 8);
        Code.one(x, Code.store(2, 0, 1, 0));
        Check.due("no SOFT", x.control(0x344), 0);
        x.set(5, x.control(0xc01) + 2);
        Code.one(x, Code.store(3, 5, 2, 0));
        Check.due("TIME below COMPARE", x.control(0x344), 0);
        Code.one(x, Code.addi(0, 0, 0));
        Check.due("TIME is COMPARE", x.control(0x344), 128);
        Code.one(x, Code.addi(0, 0, 0));
        Check.due("TIME above COMPARE", x.control(0x344), 128);
        Code.one(x, Code.store(3, 3, 2, 0));
        Check.due("unsigned", x.control(0x344), 0);
        long time = x.control(0xc01);
        x.order(0xc01, 99);
        Check.due("TIME is not written", x.control(0xc01), time);
    }

    private static void counters() {
        HartBoard x = new HartBoard(16);
        Code.begin(x, Code.RAM, Code.addi(1, 0, 1), Code.addi(1, 0, 1), 0);
        x.step(3);
        Check.due("CYCLE", x.control(0xb00), 3);
        Check.due("CYCLE at 0xc00", x.control(0xc00), 3);
        Check.due("TIME", x.control(0xc01), 3);
        Check.due("RETIRED", x.control(0xb02), 2);
        Check.due("RETIRED at 0xc02", x.control(0xc02), 2);
        x.order(0xb00, 100);
        x.order(0xb02, -1);
        x.lower(0);
        Check.due("at any privilege", x.control(0xc00), 100);
        x.lower(3);
        Code.one(x, Code.addi(1, 0, 1));
        Check.due("CYCLE counts on", x.control(0xb00), 101);
        Check.due("RETIRED wraps", x.control(0xb02), 0);
        x.order(0xc00, 5);
        x.order(0xc02, 5);
        Check.due("0xc00 is not written", x.control(0xb00), 101);
        Check.due("0xc02 is not written", x.control(0xb02), 0);
    }

    public static void main(String[] args) {
        keptBits();
        wrongNumbers();
        statusAndSatp();
        interruptsOfTheSupervisor();
        deviceBits();
        counters();
        Check.end();
    }
}
