/** What stands under 'Terms' of images. */
final class SentencesOfImages {
    private static final long RAM = Steps.RAM;
    private static final long END = Steps.END;
    private static final String IMAGES = "IMAGES";

    private SentencesOfImages() {
    }

    static void run() {
        tape();
        header();
        mark();
        kinds();
        entryAndRows();
        rowNumbers();
        rowFields();
        bringing();
        tooShort();
        wrongMark();
        wrongKinds();
        wrongRows();
        rowsOutside();
        orderOfRows();
        bytesOutside();
        memoryOutside();
        tooGreat();
        wrongEntry();
        unsigned();
        errorsChangeNothing();
        whatChanges();
    }

    /** One row: 16 bytes of the tape, 8 zeros behind them, at the begin of RAM. */
    private static Image good() {
        return new Image(1, 136).put(120, 8, 0x1122334455667788L).put(128, 8, 0x99aabbccddeeff00L).row(0, 120, RAM, 16, 24);
    }

    private static void tape() {
        Sentence.of(4, IMAGES, "The TAPE (65536 bytes at most, none at first) as an image:");
        HartBoard x = new HartBoard(16);
        Check.due("none at first", x.look(6), 0);
        Check.due("as an image", x.load(), 1);
        // More calls than are promised: a tape of 65536 bytes whose last byte is brought.
        Image full = new Image(1, 65536).row(0, 65535, RAM, 1, 1).put(65535, 1, 0x5a);
        HartBoard y = full.board();
        Check.due("a full tape", y.look(6), 65536);
        Check.due("as an image", y.load(), 0);
        Check.due("its last byte", y.peek(RAM), 0x5a);
        full.row(0, 65536, RAM, 0, 0).due("nothing at its very end", 0);
        full.row(0, 65536, RAM, 1, 1).due("a byte behind it", 6);
        Check.dueIllegalState("65537 bytes", () -> y.feed(1, 1));
    }

    private static void header() {
        Sentence.of(4, IMAGES, "a HEADER of 64 bytes:");
        new Image(1, 63).due("63 bytes", 1);
        new Image(1, 64).due("64 bytes, no room for a row", 5);
        new Image(1, 64 + 56).due("64 bytes and a row", 0);
        Image any = good();
        for (int at = 0; at < 64; at++) {
            boolean asked = at < 7 || at >= 16 && at < 40 || at >= 54 && at < 58;
            if (!asked) {
                any.put(at, 1, 0x5a + at);
            }
        }
        any.due("what is not told of the header", 0);
    }

    private static void mark() {
        Sentence.of(4, IMAGES, "0x7f 0x45 0x4c 0x46 2 1 1;");
        int[] bytes = {0x7f, 0x45, 0x4c, 0x46, 2, 1, 1};
        for (int k = 0; k < 7; k++) {
            good().put(k, 1, bytes[k] + 1).due("byte " + k + " and 1", 2);
            good().put(k, 1, bytes[k] ^ 0x80).due("byte " + k + " with another bit", 2);
            good().put(k, 1, bytes[k]).due("byte " + k, 0);
        }
        good().put(7, 1, 1).due("byte 7 is not told", 0);
    }

    private static void kinds() {
        Sentence.of(4, IMAGES, "at 16 (2 bytes) 2; at 18 (2) 243; at 20 (4) 1;");
        int[][] rows = {{16, 2, 2}, {18, 2, 243}, {20, 4, 1}};
        for (int[] row : rows) {
            for (int bit = 0; bit < 8 * row[1]; bit++) {
                good().put(row[0], row[1], row[2] ^ 1L << bit).due("at " + row[0] + " with bit " + bit, 3);
            }
            good().put(row[0], row[1], row[2]).due("at " + row[0], 0);
        }
    }

    private static void entryAndRows() {
        Sentence.of(4, IMAGES, "at 24 (8) the ENTRY; at 32 (8) where ROWS begin;");
        for (long entry : new long[] {RAM, RAM + 2, RAM + 0x1234, END - 2}) {
            HartBoard x = good().put(24, 8, entry).board();
            Check.due("ENTRY " + Steps.hex(entry), x.load(), 0);
            Check.due("PC", x.get(32), entry);
        }
        for (int at : new int[] {64, 65, 72, 136, 144}) {
            Image image = new Image(1, 200 + 8).put(32, 8, at).put(200, 8, 0x77);
            image.put(at, 4, 1).put(at + 8, 8, 200).put(at + 24, 8, RAM).put(at + 32, 8, 8).put(at + 40, 8, 8);
            HartBoard x = image.board();
            Check.due("ROWS at " + at, x.load(), 0);
            Check.due("what they bring", x.peek(RAM), 0x77);
        }
        HartBoard zero = new Image(1, 136).put(32, 8, 0).board();
        Check.due("ROWS at 0, a header for a row", zero.load(), 0);
    }

    private static void rowNumbers() {
        Sentence.of(4, IMAGES, "at 54 (2) 56; at 56 (2) how many rows, 1 .. 16.");
        for (int bit = 0; bit < 16; bit++) {
            good().put(54, 2, 56 ^ 1 << bit).due("at 54 with bit " + bit, 4);
        }
        for (int rows : new int[] {0, 17, 18, 32, 255, 256, 257, 0x8001, 0xffff}) {
            new Image(rows, 64 + 56 * 20).due(rows + " rows", 4);
        }
        for (int rows = 1; rows <= 16; rows++) {
            Image image = new Image(rows, 64 + 56 * 17 + 1).put(64 + 56 * 17, 1, 0x5a);
            for (int k = 0; k < 17; k++) {
                image.row(k, 64 + 56 * 17, RAM + k, 1, 1);
            }
            HartBoard x = image.board();
            Check.due(rows + " rows", x.load(), 0);
            for (int k = 0; k < 17; k++) {
                Check.due("row " + k + " of " + rows, x.peek(RAM + k) & 255, k < rows ? 0x5a : 0);
            }
        }
    }

    private static void rowFields() {
        Sentence.of(4, IMAGES, "A row of 56: at 0 (4) its TYPE; at 8 (8) OFFSET; at 24 (8) the physical ADDRESS; at 32 (8)"
            + " SIZE in the tape; at 40 (8) SIZE in memory.");
        for (int bit = 0; bit < 32; bit++) {
            HartBoard x = good().put(64, 4, 1 ^ 1L << bit).board();
            Check.due("another TYPE", x.load(), 0);
            Check.due("is not brought", x.peek(RAM), 0);
            good().row(0, -1, 0, -1, 0).put(64, 4, 1 ^ 1L << bit).due("errors of another TYPE", 0);
        }
        good().row(0, -1, 0, -1, 0).put(68, 4, -1).due("errors of TYPE 1, whatever is behind it", 6);
        Image image = good();
        for (int at : new int[] {4, 16, 48}) {
            image.put(64 + at, at == 4 ? 4 : 8, -1);
        }
        HartBoard x = image.board();
        Check.due("what is not told of a row", x.load(), 0);
        Check.due("is not asked", x.peek(RAM), 0x1122334455667788L);
        for (int at : new int[] {8, 24, 32, 40}) {
            for (int bit = 20; bit < 64; bit++) {
                Image wrong = good();
                long v = at == 8 ? 120 : at == 24 ? RAM : at == 32 ? 16 : 24;
                wrong.put(64 + at, 8, v ^ 1L << bit).due("the field at " + at + " with bit " + bit,
                    at == 8 || at == 32 ? 6 : 7);
            }
        }
    }

    private static void bringing() {
        Sentence.of(4, IMAGES, "Rows of type 1: these bytes of the tape come to the address, 0s behind them.");
        int[][] rows = {{0, 0}, {0, 1}, {0, 24}, {1, 1}, {1, 2}, {7, 16}, {8, 8}, {8, 9}, {15, 16}, {16, 16}, {16, 24}};
        for (int[] row : rows) {
            for (int from = 0; from < 9; from++) {
                HartBoard x = good().row(0, 120, RAM + 64 + from, row[0], row[1]).board();
                for (int k = 0; k < 8; k++) {
                    x.poke(RAM + 56 + 8 * k, 8, -1);
                }
                Check.due("a row", x.load(), 0);
                for (int k = -8; k < 40; k++) {
                    byte inTape = k >= 0 && k < 16 ? good().bytes[120 + k] : 0;
                    int want = k < 0 || k >= row[1] ? 255 : k < row[0] ? inTape & 255 : 0;
                    Check.due("byte " + k + " of " + row[0] + ", " + row[1], x.peek(RAM + 64 + from + k) & 255, want);
                }
            }
        }
        HartBoard all = good().row(0, 0, RAM, 0, 65536).board();
        for (long at = RAM; at < END; at += 2048) {
            all.poke(at, 8, -1);
        }
        all.poke(END - 8, 8, -1);
        Check.due("all of RAM", all.load(), 0);
        for (long at = RAM; at < END; at += 2048) {
            Check.due("0s everywhere", all.peek(at), 0);
        }
        Check.due("0s at its end", all.peek(END - 8), 0);
    }

    private static void tooShort() {
        Sentence.of(4, IMAGES, "ERRORS, the first that holds: 1 the tape has not 64 bytes;");
        for (int size : new int[] {1, 7, 8, 58, 63}) {
            new Image(1, size).due(size + " bytes", 1);
            new Image(99, size).put(0, 1, 0).due(size + " bytes and other errors", 1);
        }
        Check.due("no bytes", new HartBoard(16).load(), 1);
        new Image(1, 64).due("64 bytes", 5);
    }

    private static void wrongMark() {
        Sentence.of(4, IMAGES, "2 the first seven bytes;");
        good().put(0, 1, 0).put(16, 2, 0).put(54, 2, 0).put(32, 8, -1).put(24, 8, 1).due("with all errors behind", 2);
        good().put(6, 1, 2).due("the seventh", 2);
        good().put(7, 1, 2).due("the eighth", 0);
    }

    private static void wrongKinds() {
        Sentence.of(4, IMAGES, "3 what is at 16, 18, 20;");
        for (int at : new int[] {16, 18, 20}) {
            good().put(at, 2, 7).put(54, 2, 0).put(32, 8, -1).put(24, 8, 1).due("at " + at + ", with all errors behind", 3);
        }
        good().put(23, 1, 1).due("the last byte at 20", 3);
        good().put(24, 8, RAM + 2).put(12, 4, -1).due("what lies round about", 0);
    }

    private static void wrongRows() {
        Sentence.of(4, IMAGES, "4 at 54, 56;");
        good().put(54, 2, 55).put(32, 8, -1).put(24, 8, 1).due("at 54, with errors behind", 4);
        good().put(56, 2, 0).put(32, 8, -1).put(24, 8, 1).due("no rows, with errors behind", 4);
        good().put(56, 2, 17).put(32, 8, -1).put(24, 8, 1).due("17 rows, with errors behind", 4);
        good().put(56, 2, 16).due("16 rows, for which there is no room", 5);
    }

    private static void rowsOutside() {
        Sentence.of(4, IMAGES, "5 the rows do not lie in the tape;");
        for (int rows : new int[] {1, 2, 16}) {
            new Image(rows, 64 + 56 * rows).due(rows + " rows up to the end", 0);
            new Image(rows, 64 + 56 * rows - 1).due(rows + " rows, one byte too few", 5);
            new Image(rows, 64 + 56 * rows).put(32, 8, 65).due(rows + " rows, one byte further", 5);
        }
        for (long at : new long[] {136, 137, 1L << 31, 1L << 32, 64 | 1L << 32, Long.MIN_VALUE, Long.MAX_VALUE, -1, -56,
            -64 + 8}) {
            good().put(32, 8, at).due("rows at " + at, 5);
        }
        good().put(32, 8, 80).put(64 + 16, 4, 0).due("rows at the last place", 0);
        good().put(32, 8, 81).put(24, 8, 1).due("before ENTRY is asked", 5);
    }

    private static void orderOfRows() {
        Sentence.of(4, IMAGES, "then for each row of type 1 in order:");
        long[][] errors = {{-1, RAM, 1, 1, 6}, {0, 0, 1, 1, 7}, {0, RAM, 2, 1, 8}};
        for (long[] first : errors) {
            for (long[] second : errors) {
                Image image = new Image(3, 64 + 3 * 56).put(24, 8, 1).row(0, 0, RAM, 1, 1);
                image.row(1, first[0], first[1], first[2], first[3]).row(2, second[0], second[1], second[2], second[3]);
                image.due("the errors of the first of both", (int) first[4]);
                image.put(64 + 56, 4, 2).due("not of type 1", (int) second[4]);
                image.put(64 + 112, 4, 0).due("neither of type 1, but ENTRY", 9);
            }
        }
    }

    private static void bytesOutside() {
        Sentence.of(4, IMAGES, "6 its bytes do not lie in the tape");
        good().row(0, 120, RAM, 16, 24).due("up to the end", 0);
        good().row(0, 121, RAM, 16, 24).due("one byte further", 6);
        good().row(0, 120, RAM, 17, 24).due("one byte more", 6);
        good().row(0, 0, RAM, 136, 136).due("all of the tape", 0);
        good().row(0, 0, RAM, 137, 137).due("more than all of it", 6);
        good().row(0, 135, RAM, 1, 1).due("its last byte", 0);
        good().row(0, 136, RAM, 1, 1).due("the byte behind it", 6);
        long[] far = {-1, -16, Long.MIN_VALUE, Long.MAX_VALUE, 1L << 32, 120 | 1L << 32, 120 | 1L << 63};
        for (long v : far) {
            good().row(0, v, RAM, 16, 24).due("OFFSET " + v, 6);
            good().row(0, 120, RAM, v, v).due("a size of " + v, 6);
        }
        good().row(0, -8, RAM, 16, 24).due("around the end of numbers", 6);
        good().row(0, 120, RAM, -120, 24).due("a size around the end of numbers", 6);
        good().row(0, 137, 0, 16, 15).due("before 7 and 8", 6);
        Sentence.of(4, IMAGES, "(with none: OFFSET is above its size);");
        good().row(0, 0, RAM, 0, 24).due("none at its begin", 0);
        good().row(0, 136, RAM, 0, 24).due("none at its very end", 0);
        good().row(0, 137, RAM, 0, 24).due("none behind it", 6);
        good().row(0, 137, 0, 0, 0).due("none behind it, before 7", 6);
        for (long v : far) {
            good().row(0, v, RAM, 0, 24).due("OFFSET " + v + " of none", 6);
        }
    }

    private static void memoryOutside() {
        Sentence.of(4, IMAGES, "7 its memory does not lie in RAM");
        good().row(0, 120, END - 24, 16, 24).due("up to the end", 0);
        good().row(0, 120, END - 23, 16, 24).due("one byte further", 7);
        good().row(0, 120, END - 24, 16, 25).due("one byte more", 7);
        good().row(0, 120, RAM - 1, 16, 24).due("one byte before", 7);
        good().row(0, 120, RAM, 16, 65536).due("all of RAM", 0);
        good().row(0, 120, RAM, 16, 65537).due("more than all of it", 7);
        long[] far = {0, -1, -24, Long.MIN_VALUE, Long.MAX_VALUE, RAM + Long.MIN_VALUE, RAM + (1L << 32), -RAM};
        for (long v : far) {
            good().row(0, 120, v, 16, 24).due("ADDRESS " + v, 7);
        }
        for (long v : new long[] {-1, -8, Long.MIN_VALUE, Long.MAX_VALUE, 24 | 1L << 32, -RAM}) {
            good().row(0, 120, RAM + 8, 16, v).due("a size of " + v, 7);
        }
        good().row(0, 120, 0, 16, 15).due("before 8", 7);
        HartBoard large = new HartBoard(64);
        Code.feed(large, good().row(0, 120, RAM + 64 * 4096 - 24, 16, 24).bytes);
        Check.due("the end of 64 pages", large.load(), 0);
        Sentence.of(4, IMAGES, "(with none: ADDRESS is neither in RAM nor its very end);");
        good().row(0, 120, RAM, 0, 0).due("none at the begin", 0);
        good().row(0, 120, RAM - 1, 0, 0).due("none before it", 7);
        good().row(0, 120, END - 1, 0, 0).due("none in RAM", 0);
        good().row(0, 120, END, 0, 0).due("none at the very end", 0);
        good().row(0, 120, END + 1, 0, 0).due("none behind it", 7);
        good().row(0, 120, END + 1, 1, 0).due("none behind it, before 8", 7);
        for (long v : far) {
            good().row(0, 120, v, 0, 0).due("ADDRESS " + v + " of none", 7);
        }
    }

    private static void tooGreat() {
        Sentence.of(4, IMAGES, "8 its size in the tape is greater than that in memory;");
        good().row(0, 120, RAM, 16, 16).due("of the same size", 0);
        good().row(0, 120, RAM, 16, 15).due("one byte too many", 8);
        good().row(0, 120, RAM, 1, 0).due("one byte for none", 8);
        good().row(0, 120, RAM, 0, 0).due("none for none", 0);
        good().row(0, 120, END, 1, 0).due("one byte for none at the very end", 8);
        good().put(24, 8, 1).row(0, 120, RAM, 16, 15).due("before 9", 8);
    }

    private static void wrongEntry() {
        Sentence.of(4, IMAGES, "9 (at last) ENTRY is not in RAM,");
        for (long entry : new long[] {RAM - 2, END, END + 2, 0, -2, RAM + Long.MIN_VALUE, RAM + (1L << 32), Long.MIN_VALUE}) {
            good().put(24, 8, entry).due("ENTRY " + Steps.hex(entry), 9);
        }
        for (long entry : new long[] {RAM, RAM + 2, END - 2}) {
            good().put(24, 8, entry).due("ENTRY " + Steps.hex(entry), 0);
        }
        Sentence.of(4, IMAGES, "or odd.");
        for (long entry : new long[] {RAM + 1, RAM + 3, END - 1, RAM - 1, END + 1, 1, -1}) {
            good().put(24, 8, entry).due("ENTRY " + Steps.hex(entry), 9);
        }
    }

    private static void unsigned() {
        Sentence.of(4, IMAGES, "(Numbers of 8 bytes are unsigned.)");
        good().put(32, 8, -1).due("ROWS at 2^64 - 1", 5);
        good().row(0, -1, RAM, 1, 1).due("OFFSET 2^64 - 1", 6);
        good().row(0, 0, RAM, -1, -1).due("a size of 2^64 - 1 in the tape", 6);
        good().row(0, 120, -1, 1, 1).due("ADDRESS 2^64 - 1", 7);
        good().row(0, 120, RAM, 1, -1).due("a size of 2^64 - 1 in memory", 7);
        good().put(24, 8, -2).due("ENTRY 2^64 - 2", 9);
    }

    private static void errorsChangeNothing() {
        Sentence.of(4, IMAGES, "With an error nothing changes.");
        Image[] wrong = {new Image(1, 63), good().put(0, 1, 1), good().put(16, 1, 1), good().put(56, 2, 0), good().put(32, 8,
            -1),
            new Image(2, 192).row(0, 0, RAM, 64, 64).row(1, 999, RAM, 1, 1), new Image(2, 192).row(0, 0, RAM, 64, 64).row(1, 0,
                0, 1, 1),
            new Image(2, 192).row(0, 0, RAM, 64, 64).row(1, 0, RAM, 2, 1), new Image(2, 192).row(0, 0, RAM, 64, 64).put(24, 8,
                1)};
        int[] errors = {1, 2, 3, 4, 5, 6, 7, 8, 9};
        for (int k = 0; k < wrong.length; k++) {
            HartBoard x = wrong[k].board();
            Steps.reserved(x, 3, Steps.DATA);
            x.poke(RAM, 8, -1);
            x.set(32, RAM + 0x100);
            x.lower(0);
            Check.due("an image with error " + errors[k], x.load(), errors[k]);
            Check.due("RAM", x.peek(RAM), -1);
            Check.due("PC", x.get(32), RAM + 0x100);
            Check.due("PRIVILEGE", x.look(0), 0);
            Check.due("the reservation", x.look(7), 8);
            Check.due("the tape", x.look(6), wrong[k].bytes.length);
        }
    }

    private static void whatChanges() {
        Sentence.of(4, IMAGES, "Otherwise the rows are brought in order, PC is ENTRY, PRIVILEGE 3, the reservation gone; all"
            + " else stays.");
        Image image = new Image(3, 64 + 3 * 56 + 8).put(232, 8, 0x0807060504030201L).row(0, 232, RAM, 8, 8).row(1, 232, RAM + 4,
            1, 3)
            .row(2, 239, RAM + 1, 1, 1).put(24, 8, RAM + 6);
        for (int privilege : Steps.PRIVILEGES) {
            HartBoard x = image.board();
            Steps.stored(x, 0, Steps.LINE, 0x41);
            x.set(9, 99);
            x.order(0x340, 5);
            x.order(Code.MSTATUS, 0x1888);
            x.raise(3, true);
            x.poke(RAM + 8, 8, -1);
            Steps.reserved(x, 3, Steps.DATA);
            long cycle = x.control(0xb00);
            x.lower(privilege);
            Check.due("load", x.load(), 0);
            Check.due("the later over the earlier", x.peek(RAM), 0x0800000104030801L);
            Check.due("what is behind", x.peek(RAM + 8), -1);
            Check.due("PC", x.get(32), RAM + 6);
            Check.due("PRIVILEGE", x.look(0), 3);
            Check.due("the reservation", x.look(7), 0);
            Check.due("x9 stays", x.get(9), 99);
            Check.due("a control register stays", x.control(0x340), 5);
            Check.due("MSTATUS stays", x.control(Code.MSTATUS), 10L << 32 | 0x1888);
            Check.due("CYCLE stays", x.control(0xb00), cycle);
            Check.due("OUTPUT stays", x.out(0), 0x41);
            Check.due("pending sources stay", x.look(9), 8);
            Check.due("the tape stays", x.look(6), image.bytes.length);
            Check.due("traps stay", x.look(3), 0);
        }
    }
}
