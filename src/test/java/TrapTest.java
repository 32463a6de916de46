/** Promise 14: traps, returns, privileges, control instructions. */
public final class TrapTest {
    private static final long RAM = Code.RAM;

    private static HartBoard board(int privilege) {
        HartBoard x = new HartBoard(16);
        x.order(0x305, RAM + 0x800);
        x.order(0x105, RAM + 0xc01);
        x.lower(privilege);
        return x;
    }

    private static void dueCause(String what, HartBoard x, int w, int cause, long value) {
        Check.due(what + " traps", Code.one(x, w), 0);
        Check.due(what + ": CAUSE", x.look(5), cause);
        boolean given = x.look(0) == 1;
        Check.due(what + ": CAUSE register", x.control(given ? 0x142 : 0x342), cause);
        Check.due(what + ": VALUE", x.control(given ? 0x143 : 0x343), value);
        Check.due(what + ": EPC", x.control(given ? 0x141 : 0x341), RAM);
    }

    private static void calls() {
        int[][] rows = {{0, 8}, {1, 9}, {3, 11}};
        for (int[] row : rows) {
            HartBoard x = board(row[0]);
            dueCause("call", x, Code.ECALL, row[1], 0);
            Check.due("to the machine", x.look(0), 3);
            Check.due("MPP", x.control(0x300) >> 11 & 3, row[0]);
            Check.due("PC", x.get(32), RAM + 0x800);
            x = board(row[0]);
            x.order(0x302, -1);
            dueCause("delegated call", x, Code.ECALL, row[1], 0);
            Check.due("to the supervisor from below", x.look(0), row[0] == 3 ? 3 : 1);
            Check.due("PC without its low bits", x.get(32), row[0] == 3 ? RAM + 0x800 : RAM + 0xc00);
            Check.due("SPP", x.control(0x300) >> 8 & 1, row[0] == 1 ? 1 : 0);
            dueCause("break", board(row[0]), Code.EBREAK, 3, RAM);
        }
        HartBoard x = board(1);
        x.order(0x302, 1 << 8);
        dueCause("a call that is not delegated", x, Code.ECALL, 9, 0);
        Check.due("to the machine", x.look(0), 3);
        Check.due("traps", x.look(3), 1);
        Check.due("no interrupts", x.look(4), 0);
    }

    private static void statusOfTraps() {
        HartBoard x = board(3);
        x.order(0x300, 8);
        Code.one(x, Code.ECALL);
        Check.due("MIE goes to MPIE", x.control(0x300), 10L << 32 | 3 << 11 | 1 << 7);
        Code.one(x, Code.ECALL);
        Check.due("and 0 on", x.control(0x300), 10L << 32 | 3 << 11);
        x = board(1);
        x.order(0x302, -1);
        x.order(0x300, 2 | 8);
        Code.one(x, Code.ECALL);
        Check.due("SIE goes to SPIE", x.control(0x300), 10L << 32 | 1 << 8 | 1 << 5 | 8);
        x.lower(0);
        Code.one(x, Code.ECALL);
        Check.due("SPP 0", x.control(0x300), 10L << 32 | 8);
    }

    private static void machineReturns() {
        for (int mpp : new int[] {0, 1, 3}) {
            for (int mpie = 0; mpie < 2; mpie++) {
                HartBoard x = board(3);
                x.order(0x341, RAM + 0x123);
                x.order(0x300, mpp << 11 | mpie << 7 | (1 - mpie) << 3 | 1 << 17);
                Check.due("the return is done", Code.one(x, Code.MRET), 1);
                Check.due("PC", x.get(32), RAM + 0x122);
                Check.due("privilege", x.look(0), mpp);
                Check.due("MSTATUS", x.control(0x300), 10L << 32 | mpie << 3 | 1 << 7 | (mpp == 3 ? 1 << 17 : 0));
            }
        }
        dueCause("at privilege 1", board(1), Code.MRET, 2, Code.MRET);
        dueCause("at privilege 0", board(0), Code.MRET, 2, Code.MRET);
    }

    private static void supervisorReturns() {
        for (int privilege : new int[] {1, 3}) {
            for (int spp = 0; spp < 2; spp++) {
                for (int spie = 0; spie < 2; spie++) {
                    HartBoard x = board(privilege);
                    x.order(0x141, RAM + 0x456);
                    x.order(0x300, spp << 8 | spie << 5 | (1 - spie) << 1 | 1 << 17 | (privilege == 3 ? 1 << 22 : 0));
                    Check.due("the return is done", Code.one(x, Code.SRET), 1);
                    Check.due("PC", x.get(32), RAM + 0x456);
                    Check.due("privilege", x.look(0), spp);
                    Check.due("MSTATUS", x.control(0x300),
                        10L << 32 | spie << 1 | 1 << 5 | (privilege == 3 ? 1 << 22 : 0));
                }
            }
        }
        dueCause("at privilege 0", board(0), Code.SRET, 2, Code.SRET);
        HartBoard x = board(1);
        x.order(0x300, 1 << 22);
        dueCause("with TSR", x, Code.SRET, 2, Code.SRET);
    }

    private static void waiting() {
        int fence = Code.SFENCE | 5 << 15 | 6 << 20;
        int[][] rows = {{Code.WFI, 21}, {Code.SFENCE, 20}, {fence, 20}};
        for (int[] row : rows) {
            for (int bit = 20; bit <= 22; bit++) {
                for (int privilege : new int[] {0, 1, 3}) {
                    HartBoard x = board(privilege);
                    x.order(0x300, 1 << bit);
                    boolean good = privilege == 3 || privilege == 1 && bit != row[1];
                    Check.due("waits and fences", Code.one(x, row[0]), good ? 1 : 0);
                    Check.due("else illegal", good || x.look(5) == 2);
                }
            }
        }
    }

    private static void fetches() {
        HartBoard x = board(3);
        long end = RAM + 65536;
        for (long address : new long[] {0, end, RAM - 2, 0x10000000L, 0x2000000L, -2}) {
            x.set(32, address);
            Check.due("a fetch outside", x.step(1), 0);
            Check.due("CAUSE", x.control(0x342), 1);
            Check.due("VALUE", x.control(0x343), address);
            Check.due("EPC", x.control(0x341), address);
        }
        x.poke(end - 2, 2, 0x0013);
        x.set(32, end - 2);
        Check.due("the second half outside", x.step(1), 0);
        Check.due("CAUSE", x.control(0x342), 1);
        Check.due("VALUE", x.control(0x343), end);
        Check.due("EPC", x.control(0x341), end - 2);
        x.poke(end - 2, 2, 0x4505);
        x.set(32, end - 2);
        Check.due("a short one at the end", x.step(1), 1);
        Check.due("PC", x.get(32), end);
    }

    private static void controlInstructions() {
        HartBoard x = board(3);
        x.set(6, 0xf0);
        x.order(0x340, 0x0ff);
        Code.one(x, Code.control(1, 5, 0x340, 6));
        Check.due("read", x.get(5), 0xff);
        Check.due("becomes", x.control(0x340), 0xf0);
        x.order(0x340, 0x18);
        Code.one(x, Code.control(2, 5, 0x340, 6));
        Check.due("with", x.control(0x340), 0xf8);
        Code.one(x, Code.control(3, 6, 0x340, 6));
        Check.due("without", x.control(0x340), 0x08);
        Check.due("read into the same register", x.get(6), 0xf8);
        Code.one(x, Code.control(5, 5, 0x340, 31));
        Check.due("becomes the number", x.control(0x340), 31);
        Code.one(x, Code.control(6, 5, 0x340, 0));
        Code.one(x, Code.control(7, 5, 0x340, 0));
        Code.one(x, Code.control(2, 5, 0x340, 0));
        Code.one(x, Code.control(3, 5, 0x340, 0));
        Check.due("not written", x.control(0x340), 31);
        Check.due("but read", x.get(5), 31);
        Code.one(x, Code.control(7, 5, 0x340, 5));
        Check.due("without the number", x.control(0x340), 26);
        Code.one(x, Code.control(6, 5, 0x340, 4));
        Check.due("with the number", x.control(0x340), 30);
        Code.one(x, Code.control(1, 0, 0x340, 0));
        Check.due("becomes x0", x.control(0x340), 0);
        x.set(6, 1000);
        Code.one(x, Code.control(1, 0, 0xb00, 6));
        Check.due("CYCLE counts up in the step that writes it", x.control(0xb00), 1001);
        Code.one(x, Code.control(1, 0, 0xb02, 6));
        Check.due("RETIRED counts up in the step that writes it", x.control(0xb02), 1001);
        Check.due("a write that is lost is done", Code.one(x, Code.control(1, 5, 0x301, 6)), 1);
        Check.due("its value", x.get(5), 0x8000000000141105L);
    }

    private static void legalControls() {
        for (int number = 0; number < 4096; number++) {
            boolean told = true;
            HartBoard x = board(3);
            x.order(0x306, 7);
            x.order(0x106, 7);
            try {
                x.control(number);
            } catch (IllegalArgumentException e) {
                told = false;
            }
            for (int privilege : new int[] {0, 1, 3}) {
                for (int rs1 = 0; rs1 < 2; rs1++) {
                    boolean good = told && (number >> 8 & 3) <= privilege && !(rs1 == 1 && number >> 10 == 3);
                    x.lower(privilege);
                    boolean done = Code.one(x, Code.control(2, 0, number, rs1)) == 1;
                    Check.due("control 0x" + Integer.toHexString(number) + " at " + privilege + " rs1 " + rs1, done == good);
                    Check.due("else it is illegal", done || x.look(5) == 2);
                }
                x.lower(privilege);
                boolean written = Code.one(x, Code.control(5, 0, number, 0)) == 1;
                Check.due("a write of 0 is a write", written == (told && (number >> 8 & 3) <= privilege && number >> 10 != 3));
                x.order(0x305, RAM + 0x800);
                x.order(0x306, 7);
                x.order(0x106, 7);
                x.order(0x180, 0);
                x.order(0x300, 0);
            }
        }
    }

    private static void legalCounters() {
        for (int machine = 0; machine < 8; machine++) {
            for (int supervisor = 0; supervisor < 8; supervisor++) {
                for (int privilege : new int[] {0, 1, 3}) {
                    for (int k = 0; k < 3; k++) {
                        HartBoard x = board(privilege);
                        x.order(0x306, machine);
                        x.order(0x106, supervisor);
                        boolean m = (machine >> k & 1) == 1;
                        boolean s = (supervisor >> k & 1) == 1;
                        boolean good = privilege == 3 || m && (privilege == 1 || s);
                        Check.due("counter", Code.one(x, Code.control(2, 5, 0xc00 + k, 0)), good ? 1 : 0);
                    }
                }
            }
        }
        for (int privilege : new int[] {1, 3}) {
            HartBoard x = board(privilege);
            x.order(0x300, 1 << 20);
            Check.due("SATP with TVM", Code.one(x, Code.control(2, 5, 0x180, 0)), privilege == 3 ? 1 : 0);
            x.order(0x300, 0);
            x.lower(privilege);
            Check.due("SATP without TVM", Code.one(x, Code.control(2, 5, 0x180, 0)), 1);
        }
    }

    public static void main(String[] args) {
        calls();
        statusOfTraps();
        machineReturns();
        supervisorReturns();
        waiting();
        fetches();
        controlInstructions();
        legalControls();
        legalCounters();
        Check.end();
    }
}
