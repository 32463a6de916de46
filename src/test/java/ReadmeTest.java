import java.nio.file.Files;
import java.nio.file.Path;

/** The examples of README.md: each stands here word by word, and answers what README.md says. It runs where README.md lies. */
public final class ReadmeTest {
    private static final int EXAMPLES = 5;

    private static void steps() {
        HartBoard x = new HartBoard(16);           // 16 pages of RAM from 0x80000000 on
        x.poke(0x80000000L, 4, 0x00500513);        // addi x10, x0, 5
        int done = x.step(1);                      // 1: one step that was no trap and no interrupt
        long x10 = x.get(10);                      // 5
        long pc = x.get(32);                       // 0x80000004
        Check.due("done", done, 1);
        Check.due("x10", x10, 5);
        Check.due("pc", pc, 0x80000004L);
    }

    private static void image() {
        HartBoard x = new HartBoard(16);
        x.feed(8, 0x00010102464c457fL);            // the header of 64 bytes: its first seven,
        x.feed(8, 0);
        x.feed(8, 0x0000000100f30002L);            // at 16, 18 and 20: 2, 243 and 1,
        x.feed(8, 0x80000000L);                    // at 24: ENTRY,
        x.feed(8, 64);                             // at 32: where the rows begin,
        x.feed(8, 0);
        x.feed(8, 56L << 48);                      // at 54: 56, the length of a row,
        x.feed(8, 1);                              // at 56: how many rows
        x.feed(8, 1);                              // a row: its type,
        x.feed(8, 120);                            // at 8: where its bytes lie in the tape,
        x.feed(8, 0);
        x.feed(8, 0x80000000L);                    // at 24: where they come to,
        x.feed(8, 8);                              // at 32: how many they are,
        x.feed(8, 16);                             // at 40: how many bytes they fill, with 0s behind them
        x.feed(8, 0);
        int tape = x.feed(8, 0x0015051300500513L); // 128: addi x10, x0, 5 and addi x10, x10, 1 are its last bytes
        int error = x.load();                      // 0: PC is ENTRY, PRIVILEGE 3
        int done = x.step(2);                      // 2
        long x10 = x.get(10);                      // 6
        Check.due("tape", tape, 128);
        Check.due("error", error, 0);
        Check.due("done", done, 2);
        Check.due("x10", x10, 6);
        Check.due("PRIVILEGE", x.look(0), 3);
    }

    private static void line() {
        HartBoard x = new HartBoard(16);
        x.poke(0x80000000L, 4, 0x100002b7);        // lui x5, 0x10000: LINE
        x.poke(0x80000004L, 4, 0x0002c303);        // lbu x6, 0(x5): the next byte of INPUT
        x.poke(0x80000008L, 4, 0x00628023);        // sb x6, 0(x5): one byte more of OUTPUT
        x.poke(0x8000000cL, 4, 0xff9ff06f);        // jal x0, -8
        x.feed(2, 0x6968);                         // "hi"
        int input = x.type();                      // 2: the tape has become INPUT
        int done = x.step(7);                      // 7
        int output = x.look(2);                    // 2: so many bytes of OUTPUT
        int first = x.out(0);                      // 0x68, 'h'
        Check.due("input", input, 2);
        Check.due("done", done, 7);
        Check.due("output", output, 2);
        Check.due("first", first, 'h');
        Check.due("second", x.out(1), 'i');
    }

    private static void interrupt() {
        HartBoard x = new HartBoard(16);
        x.order(0x305, 0x80000100L);               // MTVEC: where traps and interrupts go
        x.order(0x304, 2);                         // MIE: interrupt 1 is open,
        x.order(0x300, 8);                         // and so are all, by MSTATUS
        x.order(0x344, 2);                         // MIP: interrupt 1 holds
        int done = x.step(1);                      // 0: the step was an interrupt
        int latest = x.look(5);                    // 65: 64 + 1
        long pc = x.get(32);                       // 0x80000100
        long back = x.control(0x341);              // MEPC: 0x80000000
        Check.due("done", done, 0);
        Check.due("latest", latest, 65);
        Check.due("pc", pc, 0x80000100L);
        Check.due("back", back, 0x80000000L);
    }

    private static void pages() {
        HartBoard x = new HartBoard(16);
        x.poke(0x80001008L, 8, 0x200000c7);        // entry 1 of a table: a page of 2^30 bytes, V, R, W, A and D
        x.order(0x180, 8L << 60 | 0x80001);        // SATP: the table's page is ROOT
        x.lower(1);                                // PRIVILEGE 3 does not translate
        long load = x.translate(0x40000123L, 1);   // 0x80000123
        long fetch = x.translate(0x40000122L, 0);  // -13: page fault, CAUSE 12, because the page has no X
        long none = x.translate(0x123L, 2);        // -16: page fault, CAUSE 15, because entry 0 is 0
        Check.due("load", load, 0x80000123L);
        Check.due("fetch", fetch, -13);
        Check.due("none", none, -16);
    }

    private static void dueInReadme() throws java.io.IOException {
        String readme = Files.readString(Path.of("README.md"));
        String here = Files.readString(Path.of("src/test/java/ReadmeTest.java"));
        int blocks = 0;
        int at = readme.indexOf("```java\n");
        while (at >= 0) {
            blocks++;
            int from = at + "```java\n".length();
            int to = readme.indexOf("```", from);
            String block = readme.substring(from, to).replaceAll("(?m)^", "        ").stripTrailing();
            Check.due("example " + blocks + " of README.md stands in this test", here.contains("{\n" + block + "\n"));
            at = readme.indexOf("```java\n", to);
        }
        Check.due("examples of README.md", blocks, EXAMPLES);
    }

    public static void main(String[] args) throws java.io.IOException {
        steps();
        image();
        line();
        interrupt();
        pages();
        dueInReadme();
        Check.end();
    }
}
