/** An image that is right, byte by byte: rows behind the header, what they bring behind them; parts may be put wrong. */
final class Image {
    final byte[] bytes;

    Image(int rows, int size) {
        bytes = new byte[size];
        int[] mark = {0x7f, 0x45, 0x4c, 0x46, 2, 1, 1};
        for (int k = 0; k < mark.length && k < size; k++) {
            bytes[k] = (byte) mark[k];
        }
        put(16, 2, 2).put(18, 2, 243).put(20, 4, 1).put(24, 8, Code.RAM).put(32, 8, 64).put(54, 2, 56).put(56, 2, rows);
    }

    Image put(int at, int n, long v) {
        for (int k = 0; k < n && at + k < bytes.length; k++) {
            bytes[at + k] = (byte) (v >>> 8 * k);
        }
        return this;
    }

    /** A row of type 1. */
    Image row(int k, long offset, long address, long inTape, long inMemory) {
        int at = 64 + 56 * k;
        return put(at, 4, 1).put(at + 8, 8, offset).put(at + 24, 8, address).put(at + 32, 8, inTape)
            .put(at + 40, 8, inMemory);
    }

    HartBoard board() {
        HartBoard x = new HartBoard(16);
        Code.feed(x, bytes);
        return x;
    }

    /** What load answers; with an error nothing changes. */
    void due(String what, int want) {
        HartBoard x = board();
        x.set(32, Code.RAM + 0x100);
        x.lower(1);
        x.poke(Code.RAM, 8, -1);
        Check.due(what, x.load(), want);
        Check.due(what + ": the tape stays", x.look(6), bytes.length);
        if (want != 0) {
            Check.due(what + ": PC stays", x.get(32), Code.RAM + 0x100);
            Check.due(what + ": privilege stays", x.look(0), 1);
            Check.due(what + ": RAM stays", x.peek(Code.RAM), -1);
        }
    }
}
