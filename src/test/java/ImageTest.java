import java.util.Random;

/** Promise 4: load. */
public final class ImageTest {
    private static final long RAM = Code.RAM;

    private static Image good() {
        return new Image(1, 136).put(120, 8, 0x1122334455667788L).put(128, 8, 0x99aabbccddeeff00L)
            .row(0, 120, RAM, 16, 24);
    }

    private static void rightOnes() {
        HartBoard x = good().put(24, 8, RAM + 6).board();
        x.set(1, RAM + 0x100);
        Code.one(x, Code.atomic(2, 3, 5, 1, 0));
        x.lower(0);
        for (int k = 0; k < 5; k++) {
            x.poke(RAM + 8 * k, 8, -1);
        }
        x.order(0x340, 5);
        Check.due("load", x.load(), 0);
        Check.due("first bytes", x.peek(RAM), 0x1122334455667788L);
        Check.due("more bytes", x.peek(RAM + 8), 0x99aabbccddeeff00L);
        Check.due("zeros behind", x.peek(RAM + 16), 0);
        Check.due("what is behind these", x.peek(RAM + 24), -1);
        Check.due("PC", x.get(32), RAM + 6);
        Check.due("privilege", x.look(0), 3);
        Check.due("the reservation", x.look(7), 0);
        Check.due("registers stay", x.get(1), RAM + 0x100);
        Check.due("control registers stay", x.control(0x340), 5);
        Check.due("the tape stays", x.look(6), 136);
        x.poke(RAM, 8, 0);
        Check.due("load again", x.load(), 0);
        Check.due("first bytes again", x.peek(RAM), 0x1122334455667788L);
    }

    private static void placesOfZeros() {
        for (int from = 0; from < 9; from++) {
            for (int length = 0; length < 40; length += 3) {
                HartBoard x = new Image(1, 121).put(120, 1, 0x5a).row(0, 120, RAM + from, 1, length + 1).board();
                for (int k = 0; k < 8; k++) {
                    x.poke(RAM + 8 * k, 8, -1);
                }
                Check.due("load", x.load(), 0);
                for (int k = 0; k < 56; k++) {
                    int want = k == from ? 0x5a : k > from && k <= from + length ? 0 : 255;
                    Check.due("byte " + k + " of zeros from " + from, x.peek(RAM + k) & 255, want);
                }
            }
        }
    }

    private static void rowsInOrder() {
        Image image = new Image(3, 64 + 3 * 56 + 8).put(64 + 3 * 56, 8, 0x0807060504030201L)
            .row(0, 64 + 168, RAM, 8, 8).row(1, 64 + 168, RAM + 4, 2, 3).row(2, 64 + 168 + 1, RAM + 1, 1, 1);
        HartBoard x = image.board();
        Check.due("load of three rows", x.load(), 0);
        Check.due("the later over the earlier", x.peek(RAM), 0x0800020104030201L & ~0xff00L | 0x0200L);
        image.put(64 + 56, 4, 2);
        x = image.board();
        Check.due("load with a row of another type", x.load(), 0);
        Check.due("it is not brought", x.peek(RAM), 0x0807060504030201L);
        image.put(64 + 56 + 8, 8, -1).put(64 + 56 + 24, 8, 3).put(64 + 56 + 40, 8, -1);
        image.due("what is wrong in a row of another type", 0);
    }

    private static void whatNobodyAsks() {
        Image image = new Image(2, 64 + 3 * 56).row(0, 0, RAM, 8, 8).row(1, 0, RAM + 8, 8, 8).row(2, 9999, 0, 2, 1);
        image.due("a row behind the last one", 0);
        image.put(56, 2, 3).due("the same row as one of three", 6);
        HartBoard x = good().put(68, 4, -1).put(80, 8, -1).put(112, 8, -1).board();
        Check.due("load with other fields of a row", x.load(), 0);
        Check.due("it is brought", x.peek(RAM), 0x1122334455667788L);
    }

    private static void errors() {
        HartBoard empty = new HartBoard(16);
        Check.due("no tape", empty.load(), 1);
        new Image(1, 63).due("63 bytes", 1);
        new Image(1, 64).due("64 bytes alone", 5);
        good().due("a right one", 0);
        for (int k = 0; k < 7; k++) {
            good().put(k, 1, 9).due("byte " + k, 2);
        }
        good().put(7, 8, -1).put(48, 6, -1).put(58, 6, -1).due("bytes that nobody asks for", 0);
        good().put(16, 2, 3).due("at 16", 3);
        good().put(17, 1, 1).due("at 17", 3);
        good().put(18, 2, 242).due("at 18", 3);
        good().put(19, 1, 1).due("at 19", 3);
        good().put(20, 4, 2).due("at 20", 3);
        good().put(23, 1, 1).due("at 23", 3);
        good().put(54, 2, 57).due("at 54", 4);
        good().put(55, 1, 1).due("at 55", 4);
        good().put(56, 2, 0).due("no rows", 4);
        good().put(56, 2, 17).due("17 rows", 4);
        good().put(57, 1, 1).due("257 rows", 4);
        good().put(56, 2, 2).due("two rows that do not lie in the tape", 5);
        good().put(32, 8, 81).due("a row that ends behind the tape", 5);
        good().put(32, 8, -1).due("rows far away", 5);
        good().put(32, 8, -40).due("rows around the end of numbers", 5);
        good().put(32, 8, Long.MIN_VALUE).due("rows at 2^63", 5);
        new Image(16, 64 + 16 * 56).due("16 rows of type 0", 0);
        new Image(16, 64 + 16 * 56 - 1).due("one byte too few for them", 5);
    }

    private static void errorsOfRows() {
        long end = RAM + 65536;
        good().row(0, 121, RAM, 16, 24).due("bytes behind the tape", 6);
        good().row(0, 120, RAM, 17, 24).due("one byte too many", 6);
        good().row(0, 136, RAM, 0, 24).due("no bytes at the end of the tape", 0);
        good().row(0, 137, RAM, 0, 24).due("no bytes behind it", 6);
        good().row(0, -1, RAM, 2, 24).due("around the end of numbers", 6);
        good().row(0, 120, RAM, -1, -1).due("a size of 2^64 - 1", 6);
        good().row(0, 120, RAM, -120, 24).due("a size around the end of numbers", 6);
        good().row(0, 120, RAM - 1, 16, 24).due("before RAM", 7);
        good().row(0, 120, end - 24, 16, 24).due("up to the end of RAM", 0);
        good().row(0, 120, end - 23, 16, 24).due("over the end of RAM", 7);
        good().row(0, 120, end, 0, 0).due("nothing at the very end", 0);
        good().row(0, 120, end + 1, 0, 0).due("nothing behind the very end", 7);
        good().row(0, 120, RAM - 1, 0, 0).due("nothing before RAM", 7);
        good().row(0, 120, RAM, 0, 65536).due("all of RAM", 0);
        good().row(0, 120, RAM, 0, 65537).due("more than all of RAM", 7);
        good().row(0, 120, RAM, 16, -1).due("a size in memory of 2^64 - 1", 7);
        good().row(0, 120, RAM + 8, 16, -8).due("around the end of numbers", 7);
        good().row(0, 120, 0, 16, 24).due("at 0", 7);
        good().row(0, 120, -1, 1, 1).due("at the last address", 7);
        good().row(0, 120, RAM | Long.MIN_VALUE, 16, 24).due("2^63 above RAM", 7);
        good().row(0, 120, RAM, 16, 15).due("greater in the tape than in memory", 8);
        good().row(0, 120, RAM, 16, 16).due("of the same size", 0);
        good().row(0, 137, 0, 16, 15).due("6 goes before 7", 6);
        good().row(0, 120, 0, 16, 15).due("7 goes before 8", 7);
        good().put(24, 8, 0).row(0, 120, RAM, 16, 15).due("8 goes before 9", 8);
        Image two = new Image(2, 192).row(0, 176, RAM, 16, 15).row(1, 1000, 0, 1, 1);
        two.due("the first row's errors first", 8);
        two.put(64, 4, 0).due("the second row's errors", 6);
        good().put(24, 8, RAM - 2).due("ENTRY before RAM", 9);
        good().put(24, 8, end).due("ENTRY behind RAM", 9);
        good().put(24, 8, end - 2).due("ENTRY at the end of RAM", 0);
        good().put(24, 8, RAM + 1).due("ENTRY odd", 9);
        good().put(24, 8, RAM | Long.MIN_VALUE).due("ENTRY 2^63 above", 9);
        good().put(24, 8, 0).row(0, 120, RAM, 1, 0).due("8 before 9", 8);
        Image late = good().put(24, 8, RAM + 1);
        late.due("nothing is brought with error 9", 9);
    }

    private static void againstTheModel() {
        Random random = new Random(5);
        long[] odd = {0, 1, 2, 16, 55, 56, 57, 64, 120, 243, 300, 65535, 65536, 65537, RAM, RAM + 1, RAM + 65534, RAM + 65536,
            -1, Long.MIN_VALUE, Long.MAX_VALUE, -RAM};
        int[] places = {0, 16, 18, 20, 24, 32, 54, 56};
        int[] ofRows = {0, 8, 24, 32, 40};
        for (int run = 0; run < 1500; run++) {
            int rows = 1 + random.nextInt(4);
            Image image = new Image(rows, 64 + 56 * rows + 40 + random.nextInt(3));
            for (int k = 0; k < 40; k++) {
                image.put(64 + 56 * rows + k, 1, random.nextInt());
            }
            for (int k = 0; k < rows; k++) {
                int inTape = random.nextInt(20);
                image.row(k, 64 + 56 * rows + random.nextInt(21), RAM + random.nextInt(100), inTape, inTape + random.nextInt(40));
            }
            for (int k = random.nextInt(3); k > 0; k--) {
                long v = odd[random.nextInt(odd.length)];
                int row = 64 + 56 * random.nextInt(rows);
                boolean inHeader = random.nextInt(4) == 0;
                int at = inHeader ? places[random.nextInt(places.length)] : row + ofRows[random.nextInt(ofRows.length)];
                image.put(at, at == 16 || at == 18 || at >= 54 && at < 64 ? 2 : at == 20 || at == row ? 4 : 8, v);
            }
            compare(image);
        }
    }

    private static void compare(Image image) {
        HartBoard x = image.board();
        Model m = new Model(16);
        for (byte b : image.bytes) {
            m.tape.add(b & 255);
        }
        for (int k = 0; k < 24; k++) {
            x.poke(RAM + 8 * k, 8, -1);
            m.ramWrite(RAM + 8 * k, 8, -1);
        }
        Check.due("load", x.load(), m.load());
        Check.due("PC", x.get(32), m.pc);
        for (int k = 0; k < 24; k++) {
            Check.due("RAM", x.peek(RAM + 8 * k), m.ramRead(RAM + 8 * k, 8));
        }
    }

    public static void main(String[] args) {
        rightOnes();
        placesOfZeros();
        rowsInOrder();
        whatNobodyAsks();
        errors();
        errorsOfRows();
        againstTheModel();
        Check.end();
    }
}
