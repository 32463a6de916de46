/** Promises 2, 3 and 5: feed, wipe, type. */
public final class TapeTest {
    private static void feeding() {
        HartBoard x = new HartBoard(16);
        Check.due("feed 1", x.feed(1, 0x1ffL), 1);
        Check.due("feed 8", x.feed(8, 0x0807060504030201L), 9);
        Check.due("feed 3", x.feed(3, 0xffccbbaaL), 12);
        for (int n : new int[] {0, -1, 9, Integer.MAX_VALUE, Integer.MIN_VALUE}) {
            Check.dueIllegalArgument("feed " + n, () -> x.feed(n, 1));
        }
        Check.due("the tape", x.look(6), 12);
        Check.due("type", x.type(), 12);
        Check.due("the tape is used up", x.look(6), 0);
        Check.due("type of an empty tape", x.type(), 12);
        int[] want = {0xff, 1, 2, 3, 4, 5, 6, 7, 8, 0xaa, 0xbb, 0xcc, 0};
        x.set(1, 0x10000000L);
        for (int k = 0; k < want.length; k++) {
            Code.one(x, Code.load(4, 10, 1, 0));
            Check.due("input byte " + k, x.get(10), want[k]);
            Check.due("bytes left", x.look(1), Math.max(0, 11 - k));
        }
        Check.due("feed behind type", x.feed(2, 0x4241), 2);
        Check.due("wipe", x.wipe(), 2);
        Check.due("wipe again", x.wipe(), 0);
        Check.due("the tape is empty", x.look(6), 0);
        Check.due("type behind wipe", x.type(), 0);
    }

    /** More calls than the document promises answers for: the limits of 65536 are not reached by fewer. */
    private static void fullOnes() {
        HartBoard x = new HartBoard(16);
        for (int k = 0; k < 8192; k++) {
            x.feed(8, k);
        }
        Check.due("a full tape", x.look(6), 65536);
        Check.dueIllegalState("feed onto a full tape", () -> x.feed(1, 1));
        Check.dueIllegalArgument("a wrong n goes first", () -> x.feed(9, 1));
        Check.due("nothing changed", x.look(6), 65536);
        Check.due("type of all", x.type(), 65536);
        x.feed(1, 7);
        Check.dueIllegalState("type beyond the limit", x::type);
        Check.due("the tape stays", x.look(6), 1);
        Check.due("the input stays", x.look(1), 65536);
        x.set(1, 0x10000000L);
        Code.one(x, Code.load(4, 10, 1, 0));
        Check.due("type when one has gone", x.type(), 65536);
        Check.due("the tape is used up", x.look(6), 0);
        Check.due("type of nothing onto a full input", x.type(), 65536);
        Check.due("wipe", x.wipe(), 0);
    }

    private static void inputAroundTheEnd() {
        HartBoard x = new HartBoard(16);
        x.set(1, 0x10000000L);
        int read = 0;
        Code.begin(x, Code.RAM, Code.load(4, 10, 1, 0), Code.jal(0, -4));
        for (int round = 0; round < 8; round++) {
            for (int k = 0; k < 5; k++) {
                x.feed(8, 0x0101010101010101L * (round * 5 + k & 255));
            }
            x.type();
            for (int k = 0; k < 24; k++) {
                x.step(2);
                Check.due("byte " + read, x.get(10), read / 8 & 255);
                read++;
            }
        }
        Check.due("what is left", x.look(1), 8 * 16);
    }

    private static void nearlyFull() {
        HartBoard x = new HartBoard(16);
        for (int k = 0; k < 8191; k++) {
            x.feed(8, k);
        }
        x.feed(4, 1);
        Check.dueIllegalState("feed of 5 with room for 4", () -> x.feed(5, 1));
        Check.due("feed of 4 with room for 4", x.feed(4, 1), 65536);
        Check.due("wipe of all", x.wipe(), 65536);
        Check.due("feed again", x.feed(8, 1), 8);
    }

    public static void main(String[] args) {
        feeding();
        fullOnes();
        nearlyFull();
        inputAroundTheEnd();
        Check.end();
    }
}
