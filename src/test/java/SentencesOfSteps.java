/** What stands under 'Terms' of a step: interrupts, traps, their causes, the fetch. */
final class SentencesOfSteps {
    private static final long RAM = Steps.RAM;
    private static final long END = Steps.END;
    private static final String STEP = "A STEP";
    private static final int NOP = Code.addi(0, 0, 0);
    private static final int[] RANKS = {11, 3, 7, 9, 1, 5};

    private SentencesOfSteps() {
    }

    static void run() {
        interruptFirst();
        doneOrTraps();
        counting();
        countingWhatWasWritten();
        ranks();
        pendingAndEnabled();
        notGiven();
        given();
        causeOfInterrupts();
        whereTrapsGo();
        whatTrapsKeep();
        whereTheyGoOn();
        privilegeOfTraps();
        reservationGoes();
        faults();
        illegal();
        breaks();
        calls();
        fetch();
        fetchFromRam();
    }

    /** All six interrupts pend; at the privilege given, with none enabled in MIE. */
    private static HartBoard pending(int privilege) {
        HartBoard x = Steps.board();
        Steps.stored(x, 2, Steps.SOFT, 1);
        Steps.stored(x, 3, Steps.COMPARE, 0);
        Steps.stored(x, 2, Steps.priority(2), 1);
        Steps.stored(x, 2, Steps.enable(0), 4);
        x.raise(2, true);
        x.order(Code.MIP, 0x222);
        x.lower(privilege);
        Code.begin(x, RAM, NOP);
        return x;
    }

    private static void interruptFirst() {
        Sentence.of(14, STEP, "If an interrupt is TAKEN, no instruction is looked at.");
        long[] places = {0, END, RAM - 2, -2, Steps.LINE, RAM};
        for (long pc : places) {
            HartBoard x = pending(1);
            x.poke(RAM, 4, 0);
            x.order(Code.MIE, 8);
            x.set(32, pc);
            Check.due("a step that is an interrupt", x.step(1), 0);
            Check.due("no trap", x.look(3), 0);
            Check.due("an interrupt", x.look(4), 1);
            Check.due("EPC", x.control(Code.MEPC), pc);
        }
        HartBoard x = pending(1);
        x.order(Code.MIE, 8);
        x.feed(1, 5);
        x.type();
        x.set(6, Steps.LINE);
        Code.begin(x, RAM, Code.load(4, 5, 6, 0));
        x.step(1);
        Check.due("INPUT stays", x.look(1), 1);
    }

    private static void doneOrTraps() {
        Sentence.of(14, STEP, "Otherwise the instruction at PC is done, or TRAPS.");
        HartBoard x = Steps.board();
        Code.begin(x, RAM + 64, Code.addi(5, 5, 1), Code.addi(5, 5, 2));
        Check.due("it is done", x.step(1), 1);
        Check.due("it alone", x.get(5), 1);
        Check.due("PC goes on", x.get(32), RAM + 68);
        x.set(6, END);
        Code.begin(x, RAM + 64, Code.load(3, 5, 6, 0));
        Check.due("it traps", x.step(1), 0);
        Check.due("it is not done", x.get(5), 1);
        Check.due("PC goes to the trap", x.get(32), Steps.TO_MACHINE);
        HartBoard y = Steps.board();
        y.set(6, END);
        y.set(7, 5);
        Steps.trapsOf("an atomic one", y, Code.atomic(0, 3, 7, 6, 7), 7, END);
        Check.due("gives nothing", y.get(7), 5);
    }

    private static void dueCounts(String what, HartBoard x, long cycle, long time, long retired) {
        Check.due(what + ": CYCLE", x.control(0xb00), cycle);
        Check.due(what + ": TIME", x.control(0xc01), time);
        Check.due(what + ": RETIRED", x.control(0xb02), retired);
    }

    private static void counting() {
        Sentence.of(14, STEP, "Behind the step, whatever it was, CYCLE and TIME are 1 more,");
        HartBoard x = Steps.board();
        Steps.done("an instruction", x, NOP);
        dueCounts("done", x, 1, 1, 1);
        Steps.illegal(x, 0);
        dueCounts("a trap", x, 2, 2, 1);
        x.order(Code.MIE, 2);
        x.order(Code.MIP, 2);
        x.lower(0);
        Check.due("an interrupt", x.step(1), 0);
        dueCounts("an interrupt", x, 3, 3, 1);
        x.order(Code.MIE, 0);
        x.set(32, 0);
        Check.due("a fetch that traps", x.step(1), 0);
        dueCounts("a fetch that traps", x, 4, 4, 1);
        x.order(0xb00, -1);
        Steps.done("an instruction", x, NOP);
        dueCounts("CYCLE wraps", x, 0, 5, 2);
        Sentence.of(14, STEP, "RETIRED 1 more if an instruction was done");
        for (int w : new int[] {NOP, Code.WFI, Code.FENCE, Code.MRET, Code.branch(1, 0, 0, 8)}) {
            long before = x.control(0xb02);
            x.lower(3);
            Steps.done("an instruction", x, w);
            Check.due("RETIRED behind " + Steps.hex(w), x.control(0xb02), before + 1);
        }
        x.lower(3);
        for (int w : new int[] {0, Code.ECALL, Code.EBREAK, Code.load(3, 5, 0, 0)}) {
            long before = x.control(0xb02);
            Check.due("a trap", Code.one(x, w), 0);
            Check.due("RETIRED behind " + Steps.hex(w), x.control(0xb02), before);
        }
    }

    private static void countingWhatWasWritten() {
        Sentence.of(14, STEP, "(also what was written there in this step counts up).");
        HartBoard x = Steps.board();
        x.step(4);
        x.order(0xb02, 1);
        x.set(6, -1);
        Steps.done("a write of CYCLE", x, Code.control(1, 5, 0xb00, 6));
        Check.due("what it was", x.get(5), 4);
        dueCounts("CYCLE wraps", x, 0, 5, 2);
        Steps.done("a write of RETIRED", x, Code.control(1, 5, 0xb02, 6));
        Check.due("what it was", x.get(5), 2);
        dueCounts("RETIRED wraps", x, 1, 6, 0);
        Steps.stored(x, 3, Steps.TIME, -1);
        dueCounts("TIME wraps", x, 2, 0, 1);
        x.order(0xb00, -1);
        x.order(0xb02, Long.MAX_VALUE);
        Steps.done("an instruction", x, NOP);
        dueCounts("written between steps", x, 0, 1, Long.MIN_VALUE);
        Steps.stored(x, 2, Steps.TIME, -1);
        dueCounts("TIME's lower half wraps into the upper one", x, 1, 1L << 32, Long.MIN_VALUE + 1);
    }

    private static void ranks() {
        Sentence.of(14, STEP, "An interrupt i (those that MIDELEG has not first, of these, then of the others, the first one"
            + " of 11, 3, 7, 9, 1, 5 that holds)");
        for (int k = 0; k < 8; k++) {
            long given = (k & 1) << 1 | (k >> 1 & 1) << 5 | (k >> 2 & 1) << 9;
            for (int first = 0; first < 6; first++) {
                for (int second = 0; second < 6; second++) {
                    HartBoard x = pending(0);
                    x.order(Code.MIDELEG, given);
                    x.order(Code.MIE, 1L << RANKS[first] | 1L << RANKS[second]);
                    boolean firstGiven = (given >> RANKS[first] & 1) == 1;
                    boolean secondGiven = (given >> RANKS[second] & 1) == 1;
                    boolean isFirst = firstGiven == secondGiven ? first < second : secondGiven;
                    Check.due("an interrupt", x.step(1), 0);
                    Check.due(RANKS[first] + " or " + RANKS[second] + " with MIDELEG " + Steps.hex(given), x.look(5),
                        64 + (isFirst ? RANKS[first] : RANKS[second]));
                }
            }
        }
        HartBoard x = pending(1);
        x.order(Code.MIDELEG, 0x20);
        x.order(Code.MIE, 0x22);
        x.order(Code.MSTATUS, 2);
        x.step(1);
        Check.due("the one that MIDELEG has not", x.look(5), 64 + 1);
    }

    private static void pendingAndEnabled() {
        Sentence.of(14, STEP, "is taken if MIP and MIE have bit i, and:");
        for (int i : RANKS) {
            HartBoard none = Steps.board(0);
            Code.begin(none, RAM, NOP);
            none.order(Code.MIE, 1L << i);
            Check.due("MIE alone has bit " + i, none.step(1), 1);
            HartBoard alone = pending(0);
            Check.due("MIP alone has bit " + i, alone.step(1), 1);
            alone.order(Code.MIE, 1L << i);
            Check.due("both have bit " + i, alone.step(1), 0);
            Check.due("it is taken", alone.look(5), 64 + i);
        }
        for (int i : new int[] {3, 7, 11, 9}) {
            HartBoard x = Steps.board();
            Steps.stored(x, 2, Steps.SOFT, i == 3 ? 1 : 0);
            Steps.stored(x, 3, Steps.COMPARE, i == 7 ? 0 : -1);
            Steps.stored(x, 2, Steps.priority(2), 1);
            Steps.stored(x, 2, Steps.enable(i == 9 ? 1 : 0), i == 9 || i == 11 ? 4 : 0);
            x.raise(2, true);
            Check.due("MIP, of which nothing is kept", x.control(Code.MIP), 1L << i);
            x.lower(1);
            x.order(Code.MIE, 1L << i);
            Check.due("a device's bit " + i, x.step(1), 0);
            Check.due("it is taken", x.look(5), 64 + i);
        }
    }

    private static void notGiven() {
        Sentence.of(14, STEP, "if MIDELEG has it not, PRIVILEGE is below 3 or MSTATUS's MIE is 1;");
        for (int i : RANKS) {
            for (int privilege : Steps.PRIVILEGES) {
                for (int status : new int[] {0, 2, 8, 10}) {
                    HartBoard x = pending(privilege);
                    x.order(Code.MIDELEG, 0x222 & ~(1L << i));
                    x.order(Code.MIE, 1L << i);
                    x.order(Code.MSTATUS, status);
                    boolean taken = privilege < 3 || (status & 8) != 0;
                    Check.due(i + " at " + privilege + " with MSTATUS " + status, x.step(1), taken ? 0 : 1);
                    Check.due("PRIVILEGE then", x.look(0), taken ? 3 : privilege);
                }
            }
        }
    }

    private static void given() {
        Sentence.of(14, STEP, "if it has it, PRIVILEGE is 0, or 1 with SIE 1.");
        for (int i : new int[] {1, 5, 9}) {
            for (int privilege : Steps.PRIVILEGES) {
                for (int status : new int[] {0, 2, 8, 10}) {
                    HartBoard x = pending(privilege);
                    x.order(Code.MIDELEG, 1L << i);
                    x.order(Code.MIE, 1L << i);
                    x.order(Code.MSTATUS, status);
                    boolean taken = privilege == 0 || privilege == 1 && (status & 2) != 0;
                    Check.due(i + " at " + privilege + " with MSTATUS " + status, x.step(1), taken ? 0 : 1);
                    Check.due("PRIVILEGE then", x.look(0), taken ? 1 : privilege);
                }
            }
        }
    }

    private static void causeOfInterrupts() {
        Sentence.of(14, STEP, "CAUSE is 2^63 + i, VALUE 0.");
        for (int i : RANKS) {
            for (int toSupervisor = 0; toSupervisor < (i == 1 || i == 5 || i == 9 ? 2 : 1); toSupervisor++) {
                HartBoard x = pending(0);
                x.order(Code.MTVAL, 7);
                x.order(Code.STVAL, 7);
                x.order(Code.MIDELEG, toSupervisor == 1 ? 1L << i : 0);
                x.order(Code.MIE, 1L << i);
                x.step(1);
                boolean there = toSupervisor == 1;
                Check.due("CAUSE of " + i, x.control(there ? Code.SCAUSE : Code.MCAUSE), Long.MIN_VALUE + i);
                Check.due("VALUE of " + i, x.control(there ? Code.STVAL : Code.MTVAL), 0);
                Check.due("look(5)", x.look(5), 64 + i);
            }
        }
    }

    /** A board at a privilege where the step traps with the cause, MEDELEG being as given. */
    private static HartBoard trapping(int privilege, long medeleg) {
        HartBoard x = Steps.board(privilege);
        x.order(Code.MEDELEG, medeleg);
        Code.begin(x, RAM, 0);
        return x;
    }

    private static void whereTrapsGo() {
        Sentence.of(14, STEP, "A TRAP with CAUSE and VALUE goes to the supervisor if PRIVILEGE is below 3 and MEDELEG (for"
            + " interrupts MIDELEG) has bit CAUSE, else to the machine.");
        for (int privilege : Steps.PRIVILEGES) {
            for (long medeleg : new long[] {0, 4, ~4L, -1}) {
                HartBoard x = trapping(privilege, medeleg);
                x.order(Code.MIDELEG, ~medeleg);
                x.step(1);
                boolean there = privilege < 3 && (medeleg & 4) != 0;
                Check.due("at " + privilege + " with MEDELEG " + medeleg, x.get(32),
                    there ? Steps.TO_SUPERVISOR : Steps.TO_MACHINE);
                Check.due("CAUSE of the machine", x.control(Code.MCAUSE), there ? 0 : 2);
                Check.due("CAUSE of the supervisor", x.control(Code.SCAUSE), there ? 2 : 0);
            }
            HartBoard call = Steps.board(privilege);
            call.order(Code.MEDELEG, -1);
            Steps.trapsOf("a call", call, Code.ECALL, 8 + privilege, 0);
            Check.due("a call at " + privilege, call.look(0), privilege < 3 ? 1 : 3);
        }
        HartBoard x = pending(1);
        x.order(Code.MEDELEG, -1);
        x.order(Code.MIE, 0x20);
        x.step(1);
        Check.due("for interrupts MEDELEG does not count", x.get(32), Steps.TO_MACHINE);
        HartBoard y = pending(0);
        y.order(Code.MIDELEG, 0x20);
        y.order(Code.MIE, 0x20);
        y.step(1);
        Check.due("but MIDELEG", y.get(32), Steps.TO_SUPERVISOR);
    }

    private static void whatTrapsKeep() {
        Sentence.of(14, STEP, "There (S or M): EPC becomes PC, CAUSE, TVAL VALUE, PIE its IE, IE 0, PP PRIVILEGE;");
        long widths = 10L << 32;
        for (int privilege : Steps.PRIVILEGES) {
            for (int status : new int[] {0, 2, 8, 10, 0x1a0, 0x1aa}) {
                HartBoard x = trapping(privilege, 0);
                x.order(Code.MSTATUS, status);
                Steps.trapsOf("to the machine", x, 0xffff, 2, 0xffff);
                Check.due("EPC of the supervisor stays", x.control(Code.SEPC), 0);
                Check.due("MSTATUS", x.control(Code.MSTATUS),
                    widths | status & 0x122 | (status & 8) << 4 | privilege << 11);
                if (privilege < 3) {
                    HartBoard y = trapping(privilege, -1);
                    y.order(Code.MSTATUS, status | 3 << 11);
                    Steps.trapsOf("to the supervisor", y, 0xffff, 2, 0xffff);
                    Check.due("EPC of the machine stays", y.control(Code.MEPC), 0);
                    Check.due("MSTATUS", y.control(Code.MSTATUS),
                        widths | 3 << 11 | status & 0x88 | (status & 2) << 4 | privilege << 8);
                }
            }
        }
    }

    private static void whereTheyGoOn() {
        Sentence.of(14, STEP, "PC the TVEC without bits 1..0,");
        for (long low = 0; low < 4; low++) {
            HartBoard x = trapping(3, 0);
            x.order(Code.MTVEC, Steps.TO_MACHINE | low);
            x.step(1);
            Check.due("a trap, TVEC with " + low, x.get(32), Steps.TO_MACHINE);
            HartBoard y = trapping(0, -1);
            y.order(Code.STVEC, Steps.TO_SUPERVISOR | low);
            y.step(1);
            Check.due("a trap to the supervisor, TVEC with " + low, y.get(32), Steps.TO_SUPERVISOR);
        }
        HartBoard far = trapping(3, 0);
        far.order(Code.MTVEC, Long.MIN_VALUE);
        far.step(1);
        Check.due("a TVEC far away", far.get(32), Long.MIN_VALUE);
        Sentence.of(14, STEP, "for interrupts with bit 0 of TVEC 1 and 4 * i;");
        for (long low = 0; low < 4; low++) {
            for (int i : RANKS) {
                HartBoard y = pending(1);
                y.order(Code.MTVEC, Steps.TO_MACHINE | low);
                y.order(Code.MIE, 1L << i);
                y.step(1);
                Check.due("interrupt " + i + ", TVEC with " + low, y.get(32), Steps.TO_MACHINE + (low % 2 == 1 ? 4 * i : 0));
            }
            HartBoard z = pending(0);
            z.order(Code.MIDELEG, 0x222);
            z.order(Code.STVEC, Steps.TO_SUPERVISOR | low);
            z.order(Code.MTVEC, Steps.TO_MACHINE | low ^ 1);
            z.order(Code.MIE, 0x200);
            z.step(1);
            Check.due("to the supervisor, TVEC with " + low, z.get(32), Steps.TO_SUPERVISOR + (low % 2 == 1 ? 36 : 0));
        }
        HartBoard last = pending(1);
        last.order(Code.MTVEC, -1);
        last.order(Code.MIE, 0x800);
        last.step(1);
        Check.due("the last TVEC wraps", last.get(32), 40);
    }

    private static void privilegeOfTraps() {
        Sentence.of(14, STEP, "PRIVILEGE 1 or 3.");
        for (int privilege : Steps.PRIVILEGES) {
            HartBoard x = trapping(privilege, 0);
            x.step(1);
            Check.due("by the machine", x.look(0), 3);
            HartBoard y = trapping(privilege, -1);
            y.step(1);
            Check.due("by the supervisor", y.look(0), privilege < 3 ? 1 : 3);
        }
    }

    private static void reservationGoes() {
        Sentence.of(14, STEP, "The RESERVATION goes.");
        for (int k = 0; k < 2; k++) {
            HartBoard x = Steps.board();
            Steps.reserved(x, 3, Steps.DATA);
            x.order(Code.MEDELEG, k == 1 ? -1 : 0);
            x.lower(1);
            Steps.illegal(x, 0);
            Check.due("behind a trap", x.look(7), 0);
            x.lower(3);
            x.set(6, Steps.DATA);
            Steps.done("a store", x, Code.atomic(3, 3, 5, 6, 7));
            Check.due("is not done", x.get(5), 1);
            HartBoard y = pending(3);
            Steps.reserved(y, 2, Steps.DATA);
            y.order(Code.MIE, 2);
            y.order(Code.MIDELEG, k == 1 ? 2 : 0);
            y.lower(0);
            Check.due("an interrupt", y.step(1), 0);
            Check.due("behind an interrupt", y.look(7), 0);
            HartBoard z = Steps.board();
            Steps.reserved(z, 2, Steps.DATA);
            z.set(32, 0);
            Check.due("a fetch that traps", z.step(1), 0);
            Check.due("behind it", z.look(7), 0);
        }
    }

    private static void faults() {
        Sentence.of(14, STEP, "CAUSES: 1, 5, 7 access fault (fetch, load, store),");
        HartBoard x = Steps.board();
        x.set(32, END);
        Steps.traps("a fetch", x, 1, END);
        Steps.loadTraps(x, 3, END, 5);
        Steps.storeTraps(x, 3, END, 7);
        Sentence.of(14, STEP, "12, 13, 15 page fault likewise,");
        HartBoard y = new Pages(1).leaf(RAM, 0xcf).board();
        long page = Pages.AT;
        y.poke(RAM, 4, Code.load(0, 5, 6, 0));
        y.poke(RAM + 4, 4, Code.store(0, 5, 6, 0));
        pageFault(y, page + 4096, 0, 12, page + 4096);
        pageFault(y, page, page + 4096, 13, page + 4096);
        pageFault(y, page + 4, page + 4096, 15, page + 4096);
        Sentence.of(14, STEP, "4, 6 misaligned (load, store),");
        Steps.loadTraps(x, 3, RAM + 4, 4);
        Steps.storeTraps(x, 3, RAM + 4, 6);
        Steps.loadTraps(x, 1, END + 1, 4);
        Steps.storeTraps(x, 1, END + 1, 6);
        Sentence.of(14, STEP, "VALUE the virtual address of the access (of a fetch: of its part of 2 bytes);");
        x.poke(END - 2, 2, 3);
        x.set(32, END - 2);
        Steps.traps("the second part of a fetch", x, 1, END);
        y.poke(RAM + 4094, 2, 3);
        pageFault(y, page + 4094, 0, 12, page + 4096);
        pageFault(y, page, page + 4097, 13, page + 4097);
        pageFault(y, page + 4, page + 4098, 15, page + 4098);
        HartBoard nowhere = new Pages(1).leaf(0x30000000L, 0xcf).board();
        pageFault(nowhere, page + 2, 0, 1, page + 2);
        nowhere.order(Code.MSTATUS, 1 << 17 | 1 << 11);
        Steps.loadTraps(nowhere, 3, page + 8, 5);
        nowhere.order(Code.MSTATUS, 1 << 17 | 1 << 11);
        Steps.storeTraps(nowhere, 3, page + 8, 7);
    }

    /** The step of the supervisor at a virtual PC, x6 being an address, traps. */
    private static void pageFault(HartBoard x, long pc, long address, int cause, long value) {
        x.lower(1);
        x.set(32, pc);
        x.set(6, address);
        Steps.traps("a step at " + Steps.hex(pc), x, cause, value);
    }

    private static void illegal() {
        Sentence.of(14, STEP, "2 illegal, VALUE the instruction (16 or 32 bits, 0s above);");
        HartBoard x = Steps.board();
        for (int w : new int[] {-1, 0x7f, 0x8000007f, 0xffff7003, 0x7b}) {
            Steps.trapsOf("32 bits", x, w, 2, w & 0xffffffffL);
        }
        for (int h : new int[] {0, 0x8000, 0x9c41, 0x9ff0, 0x2001}) {
            x.poke(RAM + 2, 8, -1);
            x.poke(RAM, 2, h);
            x.set(32, RAM);
            Steps.traps("16 bits", x, 2, h);
        }
        x.poke(END - 2, 2, 0x8000);
        x.set(32, END - 2);
        Steps.traps("16 bits at the end of RAM", x, 2, 0x8000);
    }

    private static void breaks() {
        Sentence.of(14, STEP, "3 break, VALUE PC;");
        for (int privilege : Steps.PRIVILEGES) {
            for (long pc : new long[] {RAM, RAM + 2, END - 4}) {
                HartBoard x = Steps.board(privilege);
                x.poke(pc, 4, Code.EBREAK);
                x.set(32, pc);
                Steps.traps("a break of 32 bits", x, 3, pc);
                HartBoard y = Steps.board(privilege);
                y.poke(pc + 2, 2, 0x9002);
                y.set(32, pc + 2);
                Steps.traps("a break of 16 bits", y, 3, pc + 2);
            }
        }
    }

    private static void calls() {
        Sentence.of(14, STEP, "8, 9, 11 call from privilege 0, 1, 3, VALUE 0.");
        for (int privilege : Steps.PRIVILEGES) {
            HartBoard x = Steps.board(privilege);
            x.order(Code.MTVAL, 5);
            Steps.trapsOf("a call at " + privilege, x, Code.ECALL, privilege == 0 ? 8 : privilege == 1 ? 9 : 11, 0);
        }
    }

    private static void fetch() {
        Sentence.of(14, STEP, "FETCH: 2 bytes at PC; if their lowest two bits are 3, 2 more at PC + 2, which are the upper"
            + " half.");
        HartBoard x = Steps.board();
        x.poke(RAM + 62, 2, 0x4505);
        x.poke(RAM + 64, 2, 0x4589);
        x.poke(RAM + 66, 4, Code.addi(12, 0, 3));
        x.poke(RAM + 70, 2, 0x468d);
        x.set(32, RAM + 62);
        Check.due("of 16, 16, 32, 16 bits", x.step(4), 4);
        Check.due("x10", x.get(10), 1);
        Check.due("x11", x.get(11), 2);
        Check.due("x12", x.get(12), 3);
        Check.due("x13", x.get(13), 3);
        Check.due("PC", x.get(32), RAM + 72);
        x.poke(END - 4, 4, Code.addi(12, 0, 5));
        x.set(32, END - 4);
        Check.due("the last four bytes", x.step(1), 1);
        Check.due("x12", x.get(12), 5);
        Steps.traps("behind them", x, 1, END);
        x.poke(END - 2, 2, 0x4505);
        x.set(32, END - 2);
        Check.due("the last two bytes", x.step(1), 1);
        // Two pages that do not lie side by side.
        HartBoard y = new Pages(1).leaf(RAM + 0x2000, 0xcf).board();
        y.poke(Pages.LAST + 16, 8, Pages.entry(RAM + 0x1000, 0xcf));
        y.poke(RAM + 0x2ffe, 2, Code.addi(12, 0, 7));
        y.poke(RAM + 0x1000, 2, Code.addi(12, 0, 7) >>> 16);
        y.set(32, Pages.AT + 4094);
        Check.due("halves on two pages", y.step(1), 1);
        Check.due("x12", y.get(12), 7);
    }

    private static void fetchFromRam() {
        Sentence.of(14, STEP, "Only from RAM.");
        HartBoard x = Steps.board();
        x.feed(4, 0x13);
        x.type();
        long[] places = {0, Steps.SOFT, Steps.COMPARE, Steps.TIME, Steps.priority(2), Steps.claim(0), Steps.LINE,
            Steps.LINE + 4,
            RAM - 2, RAM - 4, END, -2, Long.MIN_VALUE, RAM + Long.MIN_VALUE, RAM + (1L << 32)};
        for (long pc : places) {
            x.set(32, pc);
            Steps.traps("a fetch at " + Steps.hex(pc), x, 1, pc);
        }
        Check.due("INPUT stays", x.look(1), 4);
        HartBoard y = new Pages(1).leaf(Steps.LINE & -4096L, 0xcf).board();
        y.set(32, Pages.AT);
        Steps.traps("a page of the line", y, 1, Pages.AT);
    }
}
