/** Promises 8, 9 and 10: set, get, lower. */
public final class RegisterTest {
    public static void main(String[] args) {
        HartBoard x = new HartBoard(16);
        for (int k = 0; k < 33; k++) {
            x.set(k, 0x1000000000000001L * (k + 1));
        }
        Check.due("x0", x.get(0), 0);
        for (int k = 1; k < 32; k++) {
            Check.due("x" + k, x.get(k), 0x1000000000000001L * (k + 1));
        }
        Check.due("PC", x.get(32), 0x1000000000000001L * 33 & ~1L);
        x.set(32, -1);
        Check.due("PC without bit 0", x.get(32), -2);
        for (int register : new int[] {-1, 33, Integer.MIN_VALUE, Integer.MAX_VALUE, 64}) {
            Check.dueIllegalArgument("set " + register, () -> x.set(register, 1));
            Check.dueIllegalArgument("get " + register, () -> x.get(register));
        }
        x.set(0, 5);
        Code.one(x, Code.addi(1, 0, 0));
        Check.due("x0 counts as 0", x.get(1), 0);
        lowering();
        Check.end();
    }

    private static void lowering() {
        HartBoard x = new HartBoard(16);
        x.set(1, Code.RAM + 64);
        Code.one(x, Code.atomic(2, 2, 3, 1, 0));
        for (int p : new int[] {0, 1, 3, 1, 0}) {
            x.lower(p);
            Check.due("privilege", x.look(0), p);
            Check.due("the reservation stays", x.look(7), 4);
        }
        for (int p : new int[] {2, 4, -1, Integer.MIN_VALUE, Integer.MAX_VALUE}) {
            Check.dueIllegalArgument("lower " + p, () -> x.lower(p));
            Check.due("privilege stays", x.look(0), 0);
        }
        Check.due("privilege counts", Code.one(x, Code.MRET), 0);
        Check.due("illegal at privilege 0", x.look(5), 2);
    }
}
