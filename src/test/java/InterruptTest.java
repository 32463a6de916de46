/** Promises 13 and 16: raise, and look; with interrupts, which come between instructions (promise 14). */
public final class InterruptTest {
    private static final long RAM = Code.RAM;
    private static final long CONTROLLER = 0xc000000L;

    private static void store(HartBoard x, int f, long address, long v) {
        int was = x.look(0);
        x.lower(3);
        x.set(6, address);
        x.set(7, v);
        Check.due("a store", Code.one(x, Code.store(f, 7, 6, 0)), 1);
        x.lower(was);
    }

    private static long load(HartBoard x, long address) {
        x.set(6, address);
        Check.due("a load", Code.one(x, Code.load(2, 5, 6, 0)), 1);
        return x.get(5);
    }

    private static long claim(HartBoard x, int c) {
        return load(x, CONTROLLER + 0x200004 + 0x1000 * c);
    }

    private static void complete(HartBoard x, int c, long v) {
        store(x, 2, CONTROLLER + 0x200004 + 0x1000 * c, v);
    }

    private static HartBoard open() {
        HartBoard x = new HartBoard(16);
        x.order(0x305, RAM + 0x800);
        x.order(0x105, RAM + 0xc00);
        for (int s = 1; s < 8; s++) {
            store(x, 2, CONTROLLER + 4 * s, s == 7 ? 0 : s == 4 || s == 5 ? 6 : s);
        }
        store(x, 2, CONTROLLER + 0x2000, 0xfe);
        return x;
    }

    private static void raising() {
        HartBoard x = new HartBoard(16);
        for (int source : new int[] {-1, 0, 1, 8, 9, Integer.MIN_VALUE, Integer.MAX_VALUE}) {
            Check.dueIllegalArgument("raise " + source, () -> x.raise(source, true));
            Check.dueIllegalArgument("lower the source " + source, () -> x.raise(source, false));
        }
        Check.due("nothing is pending", x.look(9), 0);
        int set = 0;
        for (int s = 2; s < 8; s++) {
            x.raise(s, true);
            set |= 1 << s;
            Check.due("pending", x.look(9), set);
            x.raise(s, false);
            Check.due("it stays so", x.look(9), set);
        }
        Check.due("PENDING", load(x, CONTROLLER + 0x1000), set);
    }

    private static void claiming() {
        HartBoard x = open();
        Check.due("nothing to claim", claim(x, 0), 0);
        for (int s = 2; s < 8; s++) {
            x.raise(s, true);
        }
        x.raise(6, false);
        Check.due("context 1 has none enabled", claim(x, 1), 0);
        int[] order = {4, 5, 6, 3, 2, 0};
        int claimed = 0;
        for (int s : order) {
            Check.due("claim", claim(x, 0), s);
            claimed |= s == 0 ? 0 : 1 << s;
            Check.due("claimed", x.look(10), claimed);
            Check.due("pending", x.look(9), 0xfc & ~claimed);
        }
        x.raise(4, false);
        x.raise(4, true);
        Check.due("a claimed source does not become pending", x.look(9), 0x80);
        complete(x, 1, 4);
        Check.due("context 1 may not end it", x.look(10), 0x7c);
        for (long v : new long[] {0, 8, -1, 12, 1L << 31 | 4}) {
            complete(x, 0, v);
            Check.due("no such source " + v, x.look(10), 0x7c);
        }
        complete(x, 0, 0x500000004L);
        Check.due("4 is claimed no more", x.look(10), 0x6c);
        Check.due("and, being high, pending", x.look(9), 0x90);
        complete(x, 0, 6);
        Check.due("6 is claimed no more", x.look(10), 0x2c);
        Check.due("and, being low, not pending", x.look(9), 0x90);
        store(x, 2, CONTROLLER + 0x2000, 0);
        complete(x, 0, 5);
        Check.due("not enabled: still claimed", x.look(10), 0x2c);
    }

    private static void oneSourceAndTheOthers() {
        HartBoard x = open();
        store(x, 2, CONTROLLER + 4 * 7, 7);
        for (int s = 2; s < 8; s++) {
            x.raise(s, true);
        }
        x.raise(7, false);
        Check.due("claim", claim(x, 0), 7);
        Check.due("claimed", x.look(10), 0x80);
        complete(x, 0, 7);
        Check.due("claimed no more", x.look(10), 0);
        Check.due("low", x.look(9), 0x7c);
        Check.due("claim", claim(x, 0), 4);
        x.raise(7, false);
        x.raise(2, false);
        complete(x, 0, 4);
        Check.due("4 is still high when others are low", x.look(9), 0x7c);
        x.raise(7, true);
        Check.due("7 again", claim(x, 0), 7);
        x.raise(4, false);
        complete(x, 0, 7);
        Check.due("7 is still high", x.look(9), 0xfc);
    }

    private static void lineSource() {
        HartBoard x = open();
        x.feed(2, 0x4142);
        x.type();
        Check.due("the line is not enabled", x.look(9), 0);
        store(x, 0, 0x10000001L, 0xfe);
        Check.due("nor by other bits", x.look(9), 0);
        store(x, 0, 0x10000001L, 1);
        Check.due("pending behind the step", x.look(9), 2);
        Check.due("claim", claim(x, 0), 1);
        Check.due("claimed", x.look(10), 2);
        complete(x, 0, 1);
        Check.due("pending again", x.look(9), 2);
        claim(x, 0);
        x.set(6, 0x10000000L);
        Code.begin(x, RAM, Code.load(4, 5, 6, 0), Code.load(4, 5, 6, 0));
        x.step(2);
        complete(x, 0, 1);
        Check.due("without input it is low", x.look(9), 0);
        x.feed(1, 1);
        Check.due("the tape is no input", x.look(9), 0);
        x.type();
        Check.due("pending behind type", x.look(9), 2);
    }

    private static void calling() {
        HartBoard x = open();
        x.raise(3, true);
        Check.due("context 0 calls", x.control(0x344), 0x800);
        store(x, 2, CONTROLLER + 0x200000, 2);
        Check.due("a threshold below", x.control(0x344), 0x800);
        store(x, 2, CONTROLLER + 0x200000, 3);
        Check.due("the threshold itself", x.control(0x344), 0);
        Check.due("a claim does not ask for it", claim(x, 0), 3);
        store(x, 2, CONTROLLER + 0x200000, 0);
        complete(x, 0, 3);
        store(x, 2, CONTROLLER + 0x2080, 8);
        Check.due("both call", x.control(0x344), 0xa00);
        store(x, 2, CONTROLLER + 0x2000, 0);
        Check.due("context 1 alone", x.control(0x344), 0x200);
        x.order(0x303, 0x200);
        Check.due("SIP", x.control(0x144), 0x200);
        Code.one(x, Code.control(2, 5, 0x344, 0));
        Check.due("MIP as read", x.get(5), 0x200);
        x.set(6, 0);
        Code.one(x, Code.control(2, 5, 0x344, 6));
        claim(x, 1);
        Check.due("bit 9 was kept by the write", x.control(0x344), 0x200);
        x.order(0x344, 0);
        Check.due("and goes", x.control(0x344), 0);
        x.raise(7, true);
        store(x, 2, CONTROLLER + 0x2000, 0x80);
        Check.due("priority 0 never calls", x.control(0x344), 0);
        Check.due("nor is it claimed", claim(x, 0), 0);
    }

    private static void taking() {
        HartBoard x = open();
        x.order(0x304, 0xaaa);
        x.raise(2, true);
        Code.begin(x, RAM + 0x100, Code.addi(5, 0, 1));
        Check.due("not with MIE 0", x.step(1), 1);
        x.order(0x300, 8);
        x.set(32, RAM + 0x100);
        x.set(5, 0);
        long cycle = x.control(0xb00);
        long retired = x.control(0xb02);
        Check.due("taken", x.step(1), 0);
        Check.due("no instruction is done", x.get(5), 0);
        Check.due("MCAUSE", x.control(0x342), Long.MIN_VALUE + 11);
        Check.due("MTVAL", x.control(0x343), 0);
        Check.due("MEPC", x.control(0x341), RAM + 0x100);
        Check.due("PC", x.get(32), RAM + 0x800);
        Check.due("MSTATUS", x.control(0x300), 10L << 32 | 3 << 11 | 1 << 7);
        Check.due("look(5)", x.look(5), 75);
        Check.due("interrupts", x.look(4), 1);
        Check.due("traps", x.look(3), 0);
        Check.due("CYCLE", x.control(0xb00), cycle + 1);
        Check.due("RETIRED", x.control(0xb02), retired);
        x.order(0x305, RAM + 0x801);
        x.lower(1);
        x.set(32, RAM + 0x100);
        Check.due("taken below privilege 3", x.step(1), 0);
        Check.due("PC by number", x.get(32), RAM + 0x800 + 44);
        Check.due("MPP", x.control(0x300) >> 11 & 3, 1);
        x.lower(3);
        x.order(0x300, 0);
        Check.due("a trap is not spread", Code.one(x, 0), 0);
        Check.due("its PC", x.get(32), RAM + 0x800);
    }

    private static void ranks() {
        int[] order = {11, 3, 7, 9, 1, 5};
        for (int given = 0; given < 8; given++) {
            int mideleg = (given & 1) * 2 | (given >> 1 & 1) * 0x20 | (given >> 2) * 0x200;
            HartBoard x = open();
            x.order(0x303, mideleg);
            x.order(0x344, 0x222);
            store(x, 2, 0x2000000L, 1);
            store(x, 3, 0x2004000L, 0);
            x.raise(2, true);
            int open = 0xaaa;
            for (int round = 0; round < 6; round++) {
                int want = -1;
                for (int pass = 1; pass >= 0; pass--) {
                    for (int k = 5; k >= 0; k--) {
                        if ((open >> order[k] & 1) == 1 && (mideleg >> order[k] & 1) == pass) {
                            want = order[k];
                        }
                    }
                }
                x.order(0x304, open);
                x.lower(0);
                Check.due("taken", x.step(1), 0);
                Check.due("the first one of " + Integer.toHexString(open) + " given " + mideleg, x.look(5), 64 + want);
                Check.due("privilege", x.look(0), (mideleg >> want & 1) == 1 ? 1 : 3);
                open &= ~(1 << want);
            }
        }
    }

    private static void whoHears() {
        for (int privilege : new int[] {0, 1, 3}) {
            for (int status = 0; status < 4; status++) {
                for (int given = 0; given < 2; given++) {
                    HartBoard x = open();
                    x.order(0x105, RAM + 0xc01);
                    x.order(0x303, given == 1 ? 0x222 : 0);
                    x.order(0x304, 0x20);
                    x.order(0x344, 0x20);
                    x.order(0x300, (status & 1) * 2 | (status >> 1) * 8);
                    x.lower(privilege);
                    Code.begin(x, RAM, Code.addi(5, 0, 1));
                    boolean heard = given == 1 ? privilege == 0 || privilege == 1 && (status & 1) == 1
                        : privilege < 3 || status >> 1 == 1;
                    Check.due("heard", x.step(1), heard ? 0 : 1);
                    if (heard) {
                        Check.due("PC", x.get(32), given == 1 ? RAM + 0xc00 + 20 : RAM + 0x800);
                        Check.due("cause", x.control(given == 1 ? 0x142 : 0x342), Long.MIN_VALUE + 5);
                        Check.due("EPC", x.control(given == 1 ? 0x141 : 0x341), RAM);
                        Check.due("privilege", x.look(0), given == 1 ? 1 : 3);
                    }
                }
            }
        }
        HartBoard x = open();
        x.order(0x344, 0x222);
        x.order(0x300, 10);
        Check.due("not without MIE's bit", Code.one(x, Code.FENCE), 1);
        x.order(0x304, 0x888);
        Check.due("nor with others", Code.one(x, Code.FENCE), 1);
    }

    private static void looking() {
        HartBoard x = new HartBoard(33);
        for (int what : new int[] {-1, 11, 12, 64, Integer.MIN_VALUE, Integer.MAX_VALUE}) {
            Check.dueIllegalArgument("look " + what, () -> x.look(what));
        }
        Check.due("before any trap", x.look(5), -1);
        x.feed(5, 0);
        Check.due("tape", x.look(6), 5);
        x.type();
        Check.due("input", x.look(1), 5);
        Check.due("tape", x.look(6), 0);
        Check.due("pages", x.look(8), 33);
        x.order(0x305, RAM + 0x800);
        for (int k = 1; k < 5; k++) {
            Code.one(x, Code.ECALL);
            Check.due("traps", x.look(3), k);
            Check.due("the latest", x.look(5), 11);
        }
        x.order(0x304, 2);
        x.order(0x344, 2);
        x.order(0x300, 8);
        x.step(1);
        Check.due("interrupts", x.look(4), 1);
        Check.due("the latest", x.look(5), 65);
        Check.due("traps stay", x.look(3), 4);
        Code.one(x, 0);
        Check.due("the latest", x.look(5), 2);
    }

    public static void main(String[] args) {
        raising();
        claiming();
        oneSourceAndTheOthers();
        lineSource();
        calling();
        taking();
        ranks();
        whoHears();
        looking();
        Check.end();
    }
}
