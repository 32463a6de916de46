/** What stands before the promises, under 'What it is', and behind them, under 'Not promised'. */
final class SentencesOfBoard {
    private static final long RAM = Steps.RAM;
    private static final int[] NUMBERS = {0x100, 0x104, 0x105, 0x106, 0x140, 0x141, 0x142, 0x143, 0x144, 0x180, 0x300, 0x301,
        0x302, 0x303, 0x304, 0x305, 0x306, 0x340, 0x341, 0x342, 0x343, 0x344, 0xb00, 0xb02, 0xc00, 0xc01, 0xc02, 0xf11, 0xf12,
        0xf13, 0xf14};
    /** COMPARE becomes x7; then x21 counts up. */
    private static final int[] COUNTING = {Code.store(3, 7, 6, 0), Code.addi(21, 21, 1), Code.jal(0, -4)};
    /** COMPARE is ten more, x20 counts interrupts. */
    private static final int[] TICK = {Code.addi(7, 7, 10), Code.store(3, 7, 6, 0), Code.addi(20, 20, 1), Code.MRET};

    private SentencesOfBoard() {
    }

    static void run() {
        use();
        processor();
        devices();
        programs();
        steps();
        nothingBeyond();
    }

    private static void use() {
        Sentence.ofUse("An object is used for at most 512 calls after it has been made; what later calls answer is free.");
        HartBoard x = new HartBoard(16);
        for (int k = 1; k <= 511; k++) {
            Check.due("call " + k, x.feed(8, k), 8 * k);
        }
        Check.due("call 512", x.wipe(), 8 * 511);
        HartBoard y = new HartBoard(16);
        Code.begin(y, RAM, Code.addi(21, 21, 1), Code.jal(0, -4));
        for (int k = 1; k <= 508; k++) {
            Check.due("steps of call " + k, y.step(4096), 4096);
        }
        Check.due("what so many steps gave", y.get(21), 508 * 2048);
    }

    private static void processor() {
        Sentence.ofUse("one processor with 64-bit registers, three privileges, paged memory and two widths of instructions;");
        HartBoard x = Steps.board();
        for (int k = 1; k <= 31; k++) {
            x.set(k, 0x8000000000000001L + ((long) k << 32));
        }
        for (int k = 1; k <= 31; k++) {
            Check.due("x" + k, x.get(k), 0x8000000000000001L + ((long) k << 32));
        }
        privileges();
        pagesAndWidths();
    }

    private static void privileges() {
        HartBoard x = Steps.board();
        x.order(Code.MSTATUS, 1 << 11);
        x.order(Code.MEPC, RAM + 4);
        x.order(Code.SEPC, RAM + 8);
        Code.begin(x, RAM, Code.MRET, Code.SRET, Code.ECALL);
        int[] due = {3, 1, 0, 3};
        for (int k = 0; k < due.length; k++) {
            Check.due("PRIVILEGE behind " + k + " steps", x.look(0), due[k]);
            x.step(1);
        }
    }

    /** A load through a page, by an instruction of 16 bits, and one of 32 bits that lies behind it, at no multiple of 4. */
    private static void pagesAndWidths() {
        HartBoard x = new Pages(1).leaf(RAM + 0x2000, Pages.ALL).board();
        x.poke(RAM + 0x2000, 2, 0x6088);
        x.poke(RAM + 0x2002, 4, Code.addi(11, 10, 1));
        x.poke(RAM + 0x2040, 8, 0x123456789abcdefL);
        x.set(9, Pages.AT + 0x40);
        x.set(32, Pages.AT);
        Check.due("both widths", x.step(2), 2);
        Check.due("what was loaded", x.get(10), 0x123456789abcdefL);
        Check.due("and one more", x.get(11), 0x123456789abcdf0L);
        Check.due("PC behind 2 and 4 bytes", x.get(32), Pages.AT + 6);
    }

    private static void devices() {
        Sentence.ofUse("its memory, a timer, a controller of interrupts, a line in and out;");
        HartBoard x = Steps.board();
        Steps.stored(x, 2, Steps.priority(1), 1);
        Steps.stored(x, 2, Steps.enable(0), 2);
        Steps.stored(x, 0, Steps.LINE + 1, 1);
        x.order(Code.MIE, 0x800);
        x.order(Code.MSTATUS, 8);
        x.set(8, Steps.claim(0));
        x.set(9, Steps.LINE);
        Code.put(x, Steps.TO_MACHINE, Code.load(2, 10, 8, 0), Code.load(4, 11, 9, 0), Code.store(0, 11, 9, 0),
            Code.store(2, 10, 8, 0), Code.MRET);
        Code.begin(x, RAM, Code.jal(0, 0));
        x.feed(3, 0x6f6865);
        x.type();
        Check.due("three interrupts, five instructions behind each, two more", x.step(20), 17);
        Check.due("interrupts", x.look(4), 3);
        Check.due("bytes out", x.look(2), 3);
        Check.due("the first", x.out(0), 0x65);
        Check.due("the second", x.out(1), 0x68);
        Check.due("the third", x.out(2), 0x6f);
        Check.due("bytes that are left", x.look(1), 0);
        Check.due("nothing pending", x.look(9), 0);
        Check.due("nothing claimed", x.look(10), 0);
        Check.due("and the timer goes on", x.control(0xc01), 23);
    }

    private static byte[] bytes(int[] words) {
        byte[] all = new byte[4 * words.length];
        for (int k = 0; k < all.length; k++) {
            all[k] = (byte) (words[k / 4] >>> 8 * (k % 4));
        }
        return all;
    }

    private static void putByBytes(HartBoard x, long address, int[] words) {
        byte[] all = bytes(words);
        for (int k = 0; k < all.length; k++) {
            x.poke(address + k, 1, all[k]);
        }
    }

    private static HartBoard ready(HartBoard x) {
        x.order(Code.MTVEC, Steps.TO_MACHINE);
        x.order(Code.MIE, 0x80);
        x.order(Code.MSTATUS, 8);
        x.set(6, Steps.COMPARE);
        x.set(7, 10);
        return x;
    }

    private static HartBoard byBytes() {
        HartBoard x = new HartBoard(16);
        putByBytes(x, RAM, COUNTING);
        putByBytes(x, Steps.TO_MACHINE, TICK);
        return ready(x);
    }

    private static HartBoard byImage() {
        byte[] counting = bytes(COUNTING);
        byte[] tick = bytes(TICK);
        int begin = 64 + 2 * 56;
        Image image = new Image(2, begin + counting.length + tick.length);
        image.row(0, begin, RAM, counting.length, counting.length);
        image.row(1, begin + counting.length, Steps.TO_MACHINE, tick.length, tick.length + 8);
        System.arraycopy(counting, 0, image.bytes, begin, counting.length);
        System.arraycopy(tick, 0, image.bytes, begin + counting.length, tick.length);
        HartBoard x = image.board();
        Check.due("the image", x.load(), 0);
        x.wipe();
        return ready(x);
    }

    /** All that can be asked without a change, but for most of RAM. */
    private static String seen(HartBoard x) {
        StringBuilder all = new StringBuilder();
        for (int k = 0; k <= 32; k++) {
            all.append(x.get(k)).append(' ');
        }
        for (int number : NUMBERS) {
            all.append(x.control(number)).append(' ');
        }
        for (int what = 0; what <= 10; what++) {
            all.append(x.look(what)).append(' ');
        }
        for (long address : new long[] {RAM, RAM + 8, Steps.TO_MACHINE, Steps.TO_MACHINE + 8, Steps.TO_MACHINE + 16}) {
            all.append(x.peek(address)).append(' ');
        }
        for (int kind = 0; kind <= 2; kind++) {
            all.append(x.translate(RAM, kind)).append(' ');
        }
        return all.toString();
    }

    private static void programs() {
        Sentence.ofUse("programs are put there byte by byte or as images with headers;");
        HartBoard x = byBytes();
        HartBoard y = byImage();
        Check.due("both ways the same program", seen(x).equals(seen(y)));
        Check.due("steps of the one", x.step(40), 37);
        Check.due("steps of the other", y.step(40), 37);
        Check.due("both do the same", seen(x).equals(seen(y)));
    }

    private static void steps() {
        Sentence.ofUse("steps one after the other, one instruction or one interrupt each.");
        HartBoard x = byBytes();
        for (int k = 1; k <= 40; k++) {
            boolean interrupt = k % 10 == 1 && k > 1;
            Check.due("step " + k, x.step(1), interrupt ? 0 : 1);
            Check.due("CYCLE behind step " + k, x.control(Code.CYCLE), k);
            Check.due("RETIRED behind step " + k, x.control(Code.RETIRED), k - (k - 1) / 10);
            Check.due("interrupts behind step " + k, x.look(4), (k - 1) / 10);
        }
        Check.due("interrupts that were counted", x.get(20), 3);
        Check.due("what was counted between them", x.get(21), 12);
        HartBoard y = byBytes();
        y.step(13);
        y.step(0);
        y.step(27);
        Check.due("one by one or many at once", seen(x).equals(seen(y)));
    }

    private static void nothingBeyond() {
        Sentence.ofEnd("Nothing is promised beyond the answers and state changes described above, and nothing about an object"
            + " after its 512th call.");
        HartBoard x = byBytes();
        x.step(10);
        x.feed(3, 7);
        String before = seen(x);
        Check.due("a call that asks changes nothing: asked again, all answers are the same", seen(x).equals(before));
        x.step(1);
        Check.due("the interrupt that was due is taken even so", x.look(5), 64 + 7);
    }
}
