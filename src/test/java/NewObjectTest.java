/** Promise 1: a new object. */
public final class NewObjectTest {
    private static void pages(int asked, int want) {
        HartBoard x = new HartBoard(asked);
        Check.due("pages of " + asked, x.look(8), want);
        long end = Code.RAM + 4096L * want;
        Check.due("the last eight bytes", x.peek(end - 8), 0);
        Check.dueNoSuchElement("behind " + want + " pages", () -> x.peek(end - 7));
    }

    private static void controls() {
        HartBoard x = null;
        for (int number = 0; number < 4096; number++) {
            x = number % 256 == 0 ? new HartBoard(16) : x;
            boolean there = true;
            long v = 0;
            try {
                v = x.control(number);
            } catch (IllegalArgumentException e) {
                there = false;
            }
            long want = number == 0x300 ? 10L << 32 : number == 0x100 ? 2L << 32
                : number == 0x301 ? 0x8000000000141105L : 0;
            if (there) {
                Check.due("control register " + Integer.toHexString(number), v, want);
            }
        }
    }

    public static void main(String[] args) {
        int[][] asked = {{16, 16}, {17, 17}, {20, 20}, {63, 63}, {64, 64}, {15, 16}, {65, 16}, {0, 16}, {-1, 16},
            {32, 32}, {Integer.MIN_VALUE, 16}, {Integer.MAX_VALUE, 16}};
        for (int[] pair : asked) {
            pages(pair[0], pair[1]);
        }
        HartBoard x = new HartBoard(16);
        for (int k = 0; k < 32; k++) {
            Check.due("x" + k, x.get(k), 0);
        }
        Check.due("PC", x.get(32), Code.RAM);
        int[] looks = {3, 0, 0, 0, 0, -1, 0, 0, 16, 0, 0};
        for (int k = 0; k < looks.length; k++) {
            Check.due("look(" + k + ")", x.look(k), looks[k]);
        }
        for (long at = 0; at < 16 * 4096; at += 8) {
            if (at % 1000 == 0 || at < 64) {
                Check.due("RAM at first", x.peek(Code.RAM + at), 0);
            }
        }
        controls();
        HartBoard other = new HartBoard(16);
        x.poke(Code.RAM, 8, -1);
        x.set(5, 7);
        x.order(0x340, 9);
        Check.due("another object's RAM", other.peek(Code.RAM), 0);
        Check.due("another object's x5", other.get(5), 0);
        Check.due("another object's control register", other.control(0x340), 0);
        // SOFT, COMPARE and TIME at first, seen through loads.
        other.set(1, 0x2000000L);
        other.set(2, 0x2004000L);
        other.set(3, 0x200bff8L);
        Code.begin(other, Code.RAM, Code.load(2, 10, 1, 0), Code.load(3, 11, 2, 0), Code.load(3, 12, 3, 0));
        other.set(10, 77);
        Check.due("three loads", other.step(3), 3);
        Check.due("SOFT", other.get(10), 0);
        Check.due("COMPARE", other.get(11), -1);
        Check.due("TIME behind two steps", other.get(12), 2);
        Check.end();
    }
}
