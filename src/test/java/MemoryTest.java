/** Promises 6 and 7: poke and peek. */
public final class MemoryTest {
    public static void main(String[] args) {
        HartBoard x = new HartBoard(16);
        long end = Code.RAM + 65536;
        x.poke(Code.RAM, 8, 0x1122334455667788L);
        Check.due("peek", x.peek(Code.RAM), 0x1122334455667788L);
        Check.due("peek across", x.peek(Code.RAM + 3), 0x1122334455L);
        for (int n = 1; n <= 8; n++) {
            x.poke(Code.RAM + 16, 8, 0);
            x.poke(Code.RAM + 24, 8, 0);
            x.poke(Code.RAM + 21, n, -1);
            long ones = n == 8 ? -1L : (1L << 8 * n) - 1;
            Check.due("poke of " + n, x.peek(Code.RAM + 21), ones);
            Check.due("before it", x.peek(Code.RAM + 13), 0);
            x.poke(Code.RAM + 16, 8, -1);
            x.poke(Code.RAM + 24, 8, -1);
            x.poke(Code.RAM + 21, n, 0);
            Check.due("poke of " + n + " zeros", x.peek(Code.RAM + 21), ~ones);
            Check.due("before them", x.peek(Code.RAM + 13), -1L << 24);
        }
        x.poke(end - 8, 8, 5);
        Check.due("the last eight", x.peek(end - 8), 5);
        x.poke(end - 1, 1, 0x1ff);
        Check.due("the last one", x.peek(end - 8), 0xff00000000000005L);
        for (int n : new int[] {0, 9, -1, Integer.MIN_VALUE, Integer.MAX_VALUE}) {
            Check.dueIllegalArgument("poke of " + n, () -> x.poke(Code.RAM, n, 0));
            Check.dueIllegalArgument("poke of " + n + " nowhere", () -> x.poke(0, n, 0));
        }
        for (int k = 1; k <= 8; k++) {
            int n = k;
            Check.dueNoSuchElement("poke over the end", () -> x.poke(end - n + 1, n, 0));
            Check.dueNoSuchElement("poke over the begin", () -> x.poke(Code.RAM - 1, n, 0));
            x.poke(end - n, n, 0);
        }
        long[] wrong = {0, -1, 1, end - 7, end - 1, end, Code.RAM - 1, Code.RAM - 8, Long.MIN_VALUE, Long.MAX_VALUE, -8,
            Code.RAM | 1L << 63, 0x10000000L, 0x2000000L, 0xc000000L, -Code.RAM, Code.RAM << 1};
        for (long address : wrong) {
            Check.dueNoSuchElement("peek at " + address, () -> x.peek(address));
        }
        Check.due("a wrong poke changes nothing", x.peek(end - 8), 0);
        HartBoard large = new HartBoard(64);
        large.poke(Code.RAM + 64 * 4096 - 8, 8, -2);
        Check.due("the end of 64 pages", large.peek(Code.RAM + 64 * 4096 - 8), -2);
        reservationStays();
        Check.end();
    }

    private static void reservationStays() {
        HartBoard x = new HartBoard(16);
        x.set(1, Code.RAM + 64);
        x.set(2, 99);
        Code.one(x, Code.atomic(2, 3, 3, 1, 0));
        Check.due("reserved", x.look(7), 8);
        x.poke(Code.RAM + 64, 8, 1);
        Check.due("still reserved", x.look(7), 8);
        Code.one(x, Code.atomic(3, 3, 3, 1, 2));
        Check.due("stored", x.get(3), 0);
        Check.due("what was stored", x.peek(Code.RAM + 64), 99);
    }
}
