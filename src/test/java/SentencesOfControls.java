/** What stands under 'Terms' of the control registers. */
final class SentencesOfControls {
    private static final String CONTROLS = "CONTROL REGISTERS";
    private static final long WIDTHS = 10L << 32;
    private static final int MPP = 3 << 11;
    private static final int[] NUMBERS = {0x100, 0x104, 0x105, 0x106, 0x140, 0x141, 0x142, 0x143, 0x144, 0x180, 0x300, 0x301,
        0x302, 0x303, 0x304, 0x305, 0x306, 0x340, 0x341, 0x342, 0x343, 0x344, 0xb00, 0xb02, 0xc00, 0xc01, 0xc02, 0xf11, 0xf12,
        0xf13, 0xf14};

    private SentencesOfControls() {
    }

    static void run() {
        atFirst();
        lowerStatus();
        previousPrivilege();
        upperStatus();
        widths();
        notWritten();
        keptBits();
        machineAddresses();
        interruptsKept();
        softInMip();
        timeInMip();
        callsInMip();
        zeros();
        counters();
        supervisorStatus();
        supervisorEnable();
        supervisorLikeMachine();
        supervisorPending();
        satp();
        userCounters();
        openCounters();
        illegalNumbers();
        illegalPrivileges();
        illegalWrites();
        illegalSatp();
        illegalCounters();
    }

    /** Exactly the bits of the mask are kept, one by one and together, by calls and by instructions. */
    private static void kept(int number, long mask) {
        HartBoard x = new HartBoard(16);
        String what = "control register " + Steps.hex(number);
        x.order(number, -1);
        Check.due(what + ": all bits", x.control(number), mask);
        x.order(number, 0);
        Check.due(what + ": no bits", x.control(number), 0);
        for (int bit = 0; bit < 64; bit++) {
            x.order(number, 1L << bit);
            Check.due(what + ": bit " + bit, x.control(number), 1L << bit & mask);
        }
        x.set(6, -1);
        Steps.done(what + " written by an instruction", x, Code.control(1, 0, number, 6));
        Steps.done(what + " read by an instruction", x, Code.control(2, 5, number, 0));
        Check.due(what + ": all bits by an instruction", x.get(5), mask);
    }

    private static void atFirst() {
        Sentence.of(1, CONTROLS, "CONTROL REGISTERS (numbers; kept bits; 0 at first where nothing else is told):");
        HartBoard x = new HartBoard(16);
        for (int number : NUMBERS) {
            long want = number == 0x300 ? WIDTHS : number == 0x100 ? 2L << 32 : number == 0x301 ? 0x8000000000141105L : 0;
            Check.due("control register " + Steps.hex(number), x.control(number), want);
        }
    }

    private static void statusBits(int... bits) {
        HartBoard x = new HartBoard(16);
        for (int bit : bits) {
            x.order(Code.MSTATUS, 1L << bit);
            Check.due("bit " + bit, x.control(Code.MSTATUS), WIDTHS | 1L << bit);
            x.order(Code.MSTATUS, ~(1L << bit));
            Check.due("bit " + bit + " gone", x.control(Code.MSTATUS) >> bit & 1, 0);
        }
    }

    private static void lowerStatus() {
        Sentence.of(12, CONTROLS, "MSTATUS 0x300: SIE bit 1, MIE 3, SPIE 5, MPIE 7, SPP 8,");
        statusBits(1, 3, 5, 7, 8);
        HartBoard x = new HartBoard(16);
        for (int bit : new int[] {0, 2, 4, 6, 9, 10}) {
            x.order(Code.MSTATUS, 1L << bit);
            Check.due("bit " + bit + " is not kept", x.control(Code.MSTATUS), WIDTHS);
        }
    }

    private static void previousPrivilege() {
        Sentence.of(12, CONTROLS, "MPP 12..11 (a write of 2 leaves it)");
        for (int before : Steps.PRIVILEGES) {
            HartBoard x = Steps.board();
            x.order(Code.MSTATUS, (long) before << 11);
            Check.due("MPP " + before, x.control(Code.MSTATUS), WIDTHS | (long) before << 11);
            x.order(Code.MSTATUS, 2L << 11 | 0x80);
            Check.due("a write of 2 leaves it, other bits are written", x.control(Code.MSTATUS), WIDTHS | before << 11 | 0x80);
            x.set(6, 2 << 11);
            Steps.done("a write of 2 by an instruction", x, Code.control(1, 0, Code.MSTATUS, 6));
            Check.due("leaves it, too", x.control(Code.MSTATUS), WIDTHS | before << 11);
            Steps.done("bits set one by one", x, Code.control(2, 0, Code.MSTATUS, 6));
            long want = before == 1 ? 3 : before;
            Check.due("what the bits together are counts", x.control(Code.MSTATUS), WIDTHS | want << 11);
            x.set(6, 1 << 11);
            Steps.done("a bit taken away", x, Code.control(3, 0, Code.MSTATUS, 6));
            Check.due("3 without 1 is 2, which leaves it", x.control(Code.MSTATUS), WIDTHS | (want == 3 ? MPP : 0));
        }
    }

    private static void upperStatus() {
        Sentence.of(12, CONTROLS, "MPRV 17, SUM 18, MXR 19, TVM 20, TW 21, TSR 22;");
        statusBits(17, 18, 19, 20, 21, 22);
        HartBoard x = new HartBoard(16);
        for (int bit = 13; bit < 64; bit++) {
            if (bit < 17 || bit > 22) {
                x.order(Code.MSTATUS, 1L << bit);
                Check.due("bit " + bit + " is not kept", x.control(Code.MSTATUS), WIDTHS);
            }
        }
        x.order(Code.MSTATUS, -1);
        Check.due("all bits", x.control(Code.MSTATUS), WIDTHS | 0x7e19aa);
    }

    private static void widths() {
        Sentence.of(11, CONTROLS, "bits 35..32 read 10.");
        HartBoard x = new HartBoard(16);
        for (long v : new long[] {0, -1, 5L << 32, 15L << 32, 10L << 32}) {
            x.order(Code.MSTATUS, v);
            Check.due("bits 35..32", x.control(Code.MSTATUS) >> 32, 10);
        }
    }

    private static void notWritten() {
        Sentence.of(12, CONTROLS, "0x301 reads 0x8000000000141105, not written.");
        HartBoard x = Steps.board();
        for (long v : new long[] {0, -1}) {
            x.order(0x301, v);
            Check.due("0x301", x.control(0x301), 0x8000000000141105L);
            x.set(6, v);
            Steps.done("a write of the machine", x, Code.control(1, 5, 0x301, 6));
            Check.due("read by it", x.get(5), 0x8000000000141105L);
            Check.due("0x301 stays", x.control(0x301), 0x8000000000141105L);
        }
    }

    private static void keptBits() {
        Sentence.of(12, CONTROLS, "MEDELEG 0x302: 0xb3ff.");
        kept(0x302, 0xb3ff);
        Sentence.of(12, CONTROLS, "MIDELEG 0x303: 0x222.");
        kept(0x303, 0x222);
        Sentence.of(12, CONTROLS, "MIE 0x304: 0xaaa.");
        kept(0x304, 0xaaa);
        Sentence.of(12, CONTROLS, "0x306: 7.");
        kept(0x306, 7);
        Sentence.of(12, CONTROLS, "MSCRATCH 0x340.");
        kept(0x340, -1);
        Sentence.of(12, CONTROLS, "MCAUSE 0x342.");
        kept(0x342, -1);
        Sentence.of(12, CONTROLS, "MTVAL 0x343.");
        kept(0x343, -1);
    }

    private static void machineAddresses() {
        Sentence.of(12, CONTROLS, "MTVEC 0x305: all but bit 1.");
        kept(0x305, ~2L);
        Sentence.of(12, CONTROLS, "MEPC 0x341: all but bit 0.");
        kept(0x341, ~1L);
    }

    private static void interruptsKept() {
        Sentence.of(12, CONTROLS, "MIP 0x344: kept 0x222;");
        kept(0x344, 0x222);
    }

    private static void softInMip() {
        Sentence.of(11, CONTROLS, "it reads these, with bit 3 SOFT,");
        HartBoard x = Steps.board();
        x.order(Code.MIP, 0x222);
        Steps.stored(x, 2, Steps.SOFT, 1);
        Check.due("with SOFT", x.control(Code.MIP), 0x22a);
        x.order(Code.MIP, 0);
        Check.due("SOFT is not written", x.control(Code.MIP), 8);
        Steps.stored(x, 2, Steps.SOFT, 0);
        x.order(Code.MIP, 8);
        Check.due("nor set", x.control(Code.MIP), 0);
    }

    private static void timeInMip() {
        Sentence.of(11, CONTROLS, "bit 7 whether TIME is not below COMPARE (unsigned),");
        // What TIME is behind the step that writes it, COMPARE, whether the bit is 1.
        long[][] rows = {{5, 6, 0}, {6, 6, 1}, {7, 6, 1}, {0, 0, 1}, {0, 1, 0}, {1, 0, 1}, {-1, -1, 1}, {-2, -1, 0},
            {5, -1, 0}, {-1, 5, 1}, {Long.MAX_VALUE, Long.MIN_VALUE, 0}, {Long.MIN_VALUE, Long.MAX_VALUE, 1},
            {Long.MIN_VALUE, Long.MIN_VALUE, 1}, {0, -1, 0}};
        for (long[] row : rows) {
            HartBoard x = Steps.board();
            Steps.stored(x, 3, Steps.COMPARE, row[1]);
            Steps.stored(x, 3, Steps.TIME, row[0] - 1);
            Check.due("TIME", x.control(0xc01), row[0]);
            Check.due("TIME " + row[0] + ", COMPARE " + row[1], x.control(Code.MIP), row[2] << 7);
            x.order(Code.MIP, row[2] == 1 ? 0 : 0x80);
            Check.due("the bit is not written", x.control(Code.MIP), row[2] << 7);
        }
        HartBoard x = Steps.board();
        Check.due("at first", x.control(Code.MIP), 0);
    }

    private static HartBoard calling(int context) {
        HartBoard x = Steps.board();
        Steps.stored(x, 2, Steps.priority(4), 1);
        Steps.stored(x, 2, Steps.enable(context), 1 << 4);
        x.raise(4, true);
        return x;
    }

    private static void callsInMip() {
        Sentence.of(11, CONTROLS, "bit 11 whether context 0 calls,");
        HartBoard x = calling(0);
        Check.due("context 0 calls", x.control(Code.MIP), 0x800);
        x.order(Code.MIP, 0);
        Check.due("it is not written", x.control(Code.MIP), 0x800);
        Steps.stored(x, 2, Steps.threshold(0), 1);
        Check.due("it calls no more", x.control(Code.MIP), 0);
        x.order(Code.MIP, 0x800);
        Check.due("nor is it set", x.control(Code.MIP), 0);
        Sentence.of(11, CONTROLS, "bit 9 also whether context 1 calls.");
        HartBoard y = calling(1);
        Check.due("context 1 calls", y.control(Code.MIP), 0x200);
        y.order(Code.MIP, 0);
        Check.due("it calls still", y.control(Code.MIP), 0x200);
        y.order(Code.MIP, 0x200);
        Steps.stored(y, 2, Steps.threshold(1), 1);
        Check.due("what was written stays", y.control(Code.MIP), 0x200);
        y.order(Code.MIP, 0);
        Check.due("neither of both", y.control(Code.MIP), 0);
    }

    private static void zeros() {
        Sentence.of(11, CONTROLS, "0xf11 to 0xf14 read 0.");
        for (int number = 0xf11; number <= 0xf14; number++) {
            HartBoard x = Steps.board();
            x.order(number, -1);
            Check.due("control register " + Steps.hex(number), x.control(number), 0);
            x.set(5, 7);
            Steps.done("a read of the machine", x, Code.control(2, 5, number, 0));
            Check.due("what it reads", x.get(5), 0);
        }
        HartBoard x = Steps.board();
        Check.dueIllegalArgument("0xf10", () -> x.control(0xf10));
        Check.dueIllegalArgument("0xf15", () -> x.control(0xf15));
    }

    private static void counters() {
        Sentence.of(12, CONTROLS, "CYCLE 0xb00, RETIRED 0xb02.");
        for (int number : new int[] {0xb00, 0xb02}) {
            HartBoard x = Steps.board();
            for (long v : new long[] {-1, Long.MIN_VALUE, 0, 0x123456789abcdefL}) {
                x.order(number, v);
                Check.due("control register " + Steps.hex(number), x.control(number), v);
                Check.due("the other one", x.control(0xb00 + 0xb02 - number), 0);
            }
        }
        HartBoard x = Steps.board();
        Check.dueIllegalArgument("0xb01", () -> x.control(0xb01));
        Check.dueIllegalArgument("0xb03", () -> x.order(0xb03, 1));
    }

    private static void supervisorStatus() {
        Sentence.of(12, CONTROLS, "SSTATUS 0x100: of MSTATUS SIE, SPIE, SPP, SUM, MXR (written alone), and bits 33..32.");
        long mask = 1 << 1 | 1 << 5 | 1 << 8 | 1 << 18 | 1 << 19;
        HartBoard x = new HartBoard(16);
        x.order(Code.MSTATUS, -1);
        Check.due("of all bits", x.control(Code.SSTATUS), 2L << 32 | mask);
        x.order(Code.SSTATUS, 0);
        Check.due("these are written alone", x.control(Code.MSTATUS), WIDTHS | 0x7e19aa & ~mask);
        Check.due("SSTATUS without them", x.control(Code.SSTATUS), 2L << 32);
        x.order(Code.MSTATUS, 0);
        x.order(Code.SSTATUS, -1);
        Check.due("only these are set", x.control(Code.MSTATUS), WIDTHS | mask);
        for (int bit = 0; bit < 64; bit++) {
            x.order(Code.SSTATUS, 1L << bit);
            Check.due("bit " + bit, x.control(Code.SSTATUS), 2L << 32 | 1L << bit & mask);
        }
    }

    private static void supervisorEnable() {
        Sentence.of(12, CONTROLS, "SIE 0x104: MIE, where MIDELEG has a 1 (these bits alone are written).");
        for (int k = 0; k < 8; k++) {
            long given = (k & 1) << 1 | (k >> 1 & 1) << 5 | (k >> 2 & 1) << 9;
            HartBoard x = new HartBoard(16);
            x.order(Code.MIDELEG, given);
            x.order(Code.MIE, -1);
            Check.due("of all bits", x.control(Code.SIE), given);
            x.order(Code.SIE, 0);
            Check.due("these are taken alone", x.control(Code.MIE), 0xaaa & ~given);
            x.order(Code.MIE, 0);
            x.order(Code.SIE, -1);
            Check.due("these are written alone", x.control(Code.MIE), given);
        }
    }

    private static void supervisorLikeMachine() {
        Sentence.of(12, CONTROLS, "STVEC 0x105, SSCRATCH 0x140, SEPC 0x141, SCAUSE 0x142, STVAL 0x143 as those of the"
            + " machine.");
        kept(0x105, ~2L);
        kept(0x140, -1);
        kept(0x141, ~1L);
        kept(0x142, -1);
        kept(0x143, -1);
        HartBoard x = new HartBoard(16);
        for (int number : new int[] {0x105, 0x140, 0x141, 0x142, 0x143}) {
            x.order(number, 0x100);
            Check.due("that of the machine stays", x.control(number + 0x200), 0);
            x.order(number + 0x200, 0x200);
            Check.due("that of the supervisor stays", x.control(number), 0x100);
        }
        Sentence.of(12, CONTROLS, "0x106: 7.");
        kept(0x106, 7);
        x.order(0x106, 5);
        Check.due("that of the machine stays", x.control(0x306), 0);
    }

    private static void supervisorPending() {
        Sentence.of(12, CONTROLS, "SIP 0x144: MIP, where MIDELEG has a 1; bit 1 of it alone is written, if MIDELEG has it.");
        for (int k = 0; k < 8; k++) {
            long given = (k & 1) << 1 | (k >> 1 & 1) << 5 | (k >> 2 & 1) << 9;
            HartBoard x = Steps.board();
            x.order(Code.MIDELEG, given);
            x.order(Code.MIP, 0x222);
            Steps.stored(x, 2, Steps.SOFT, 1);
            Check.due("of all bits", x.control(Code.SIP), given);
            x.order(Code.SIP, 0);
            Check.due("bit 1 alone is taken", x.control(Code.MIP), 0x22a & ~(given & 2));
            x.order(Code.MIP, 0);
            x.order(Code.SIP, -1);
            Check.due("bit 1 alone is written", x.control(Code.MIP), 8 | given & 2);
        }
        HartBoard x = calling(1);
        Check.due("a call of context 1 without MIDELEG", x.control(Code.SIP), 0);
        x.order(Code.MIDELEG, 0x200);
        Check.due("with it", x.control(Code.SIP), 0x200);
    }

    private static void satp() {
        Sentence.of(12, CONTROLS, "SATP 0x180: MODE 63..60 (0 or 8: a write of another one is lost as a whole), 59..44 kept,"
            + " ROOT 43..0.");
        long rest = (1L << 60) - 1;
        for (long before : new long[] {0, 8L << 60 | 0x123456789abcdefL, 0x0fedcba987654321L}) {
            HartBoard x = new HartBoard(16);
            x.order(Code.SATP, before);
            Check.due("SATP", x.control(Code.SATP), before);
            for (long mode = 0; mode < 16; mode++) {
                boolean good = mode == 0 || mode == 8;
                x.order(Code.SATP, mode << 60 | rest);
                Check.due("MODE " + mode + ", all bits", x.control(Code.SATP), good ? mode << 60 | rest : before);
                x.order(Code.SATP, mode << 60);
                Check.due("MODE " + mode + ", no bits", x.control(Code.SATP), good ? mode << 60 : before);
                x.order(Code.SATP, before);
            }
        }
    }

    private static void userCounters() {
        Sentence.of(12, CONTROLS, "0xc00 CYCLE, 0xc01 TIME, 0xc02 RETIRED, which are not written:");
        HartBoard x = Steps.board();
        Steps.stored(x, 3, Steps.TIME, 99);
        x.order(0xb00, 11);
        x.order(0xb02, 22);
        for (int k = 0; k < 2; k++) {
            Check.due("0xc00", x.control(0xc00), 11);
            Check.due("0xc01", x.control(0xc01), 100);
            Check.due("0xc02", x.control(0xc02), 22);
            for (int number = 0xc00; number <= 0xc02; number++) {
                x.order(number, 5);
            }
        }
        Check.due("CYCLE", x.control(0xb00), 11);
        Check.due("RETIRED", x.control(0xb02), 22);
        for (int number = 0xc00; number <= 0xc02; number++) {
            Steps.illegal(x, Code.control(1, 5, number, 6));
        }
        Check.dueIllegalArgument("0xc03", () -> x.control(0xc03));
    }

    /** Whether each of the three counters may be read, as bits. */
    private static int open(int privilege, int machine, int supervisor) {
        int open = 0;
        for (int k = 0; k < 3; k++) {
            HartBoard x = Steps.board(privilege);
            x.order(0x306, machine);
            x.order(0x106, supervisor);
            open |= Code.one(x, Code.control(2, 5, 0xc00 + k, 0)) << k;
        }
        return open;
    }

    private static void openCounters() {
        Sentence.of(14, CONTROLS, "from privilege 1 only if bit 0, 1, 2 of 0x306 is 1, from 0 if those of 0x306 and 0x106"
            + " are.");
        for (int machine = 0; machine < 8; machine++) {
            for (int supervisor = 0; supervisor < 8; supervisor++) {
                String what = "with " + machine + " and " + supervisor;
                Check.due("privilege 0 " + what, open(0, machine, supervisor), machine & supervisor);
                Check.due("privilege 1 " + what, open(1, machine, supervisor), machine);
                Check.due("privilege 3 " + what, open(3, machine, supervisor), 7);
            }
        }
    }

    private static boolean told(int number) {
        for (int one : NUMBERS) {
            if (one == number) {
                return true;
            }
        }
        return false;
    }

    private static void illegalNumbers() {
        Sentence.of(14, CONTROLS, "A control instruction is ILLEGAL for a number that is not told here,");
        HartBoard x = null;
        for (int number = 0; number < 4096; number++) {
            x = number % 64 == 0 ? Steps.board() : x;
            if (!told(number)) {
                int w = Code.control(number % 3 + 1, 5, number, 0);
                Check.due("control register " + Steps.hex(number) + " by " + number % 3, Code.one(x, w), 0);
                Check.due("CAUSE", x.look(5), 2);
                Check.due("VALUE", x.control(Code.MTVAL), w & 0xffffffffL);
            } else {
                Check.due("control register " + Steps.hex(number), Code.one(x, Code.control(2, 5, number, 0)), 1);
            }
        }
    }

    private static void illegalPrivileges() {
        Sentence.of(14, CONTROLS, "for bits 9..8 of it above PRIVILEGE,");
        for (int number : NUMBERS) {
            for (int privilege : Steps.PRIVILEGES) {
                HartBoard x = Steps.board(privilege);
                x.order(0x306, 7);
                x.order(0x106, 7);
                int w = Code.control(2, 5, number, 0);
                if ((number >> 8 & 3) > privilege) {
                    Steps.illegal(x, w);
                } else {
                    Steps.done(Steps.hex(number) + " at " + privilege, x, w);
                }
            }
        }
    }

    private static void illegalWrites() {
        Sentence.of(14, CONTROLS, "if it would write one whose bits 11..10 are 3,");
        for (int number : new int[] {0xc00, 0xc01, 0xc02, 0xf11, 0xf12, 0xf13, 0xf14}) {
            HartBoard x = Steps.board();
            for (int f : new int[] {1, 2, 3, 5, 6, 7}) {
                Steps.illegal(x, Code.control(f, 5, number, 1));
                if (f % 4 == 1) {
                    Steps.illegal(x, Code.control(f, 5, number, 0));
                } else {
                    Steps.done("without a write", x, Code.control(f, 5, number, 0));
                }
            }
        }
        for (int number : NUMBERS) {
            HartBoard x = Steps.board();
            if (number >> 10 != 3) {
                Steps.done("a write of " + Steps.hex(number), x, Code.control(5, 5, number, 0));
            }
        }
    }

    private static void illegalSatp() {
        Sentence.of(14, CONTROLS, "for SATP at privilege 1 with TVM,");
        for (int f : new int[] {1, 2, 3, 5, 6, 7}) {
            int w = Code.control(f, 5, Code.SATP, 0);
            HartBoard x = Steps.board(1);
            Steps.done("without TVM", x, w);
            x.order(Code.MSTATUS, ~(1L << 20));
            Steps.done("without TVM, with all else", x, w);
            x.order(Code.MSTATUS, 1 << 20);
            Steps.done("another register", x, Code.control(f, 5, 0x140, 0));
            Steps.illegal(x, w);
            x.lower(3);
            Steps.done("by the machine", x, w);
        }
    }

    private static void illegalCounters() {
        Sentence.of(14, CONTROLS, "and for 0xc00 to 0xc02 as told.");
        for (int number = 0xc00; number <= 0xc02; number++) {
            int w = Code.control(2, 5, number, 0);
            HartBoard x = Steps.board(1);
            x.order(0x306, 7 & ~(1 << number - 0xc00));
            x.order(0x106, 7);
            Steps.illegal(x, w);
            x.lower(0);
            Steps.illegal(x, w);
            x.order(0x306, 1 << number - 0xc00);
            x.lower(0);
            Steps.done("from 0, when both are 1", x, w);
            x.order(0x106, 7 & ~(1 << number - 0xc00));
            Steps.illegal(x, w);
            x.lower(1);
            Steps.done("from 1, when the machine's is 1", x, w);
        }
    }
}
