/**
 * A test for each sentence of ../shared/DOC.md that names a boundary case. Each says which promise and which sentence it
 * is for; in the end no sentence is left over.
 */
public final class SentenceTest {
    /** What throws where nothing is due is a wrong answer to the sentence at hand, and not the end of the others. */
    private static void run(Check.Call tests) {
        try {
            tests.make();
        } catch (RuntimeException e) {
            e.printStackTrace(System.out);
            Check.due("nothing is thrown, " + e, false);
        }
    }

    public static void main(String[] args) {
        run(SentencesOfBoard::run);
        run(SentencesOfCalls::run);
        run(SentencesOfMemory::run);
        run(SentencesOfControls::run);
        run(SentencesOfSteps::run);
        run(SentencesOfPages::run);
        run(SentencesOfInstructions::run);
        run(SentencesOfHalves::run);
        run(SentencesOfImages::run);
        // The parts' names, a sentence of notation, and what the document leaves free.
        Sentence.dueAllBut("A board", "WORDS", "V[h..l] are bits h to l of V; bits of a constant are written 0x", "PHYSICAL MEMORY",
            "A STEP", "INSTRUCTIONS of 32 bits", "INSTRUCTIONS of 16 bits", "IMAGES",
            "How the state is held inside the object is free, as are the speed of each call, the text of toString and the"
                + " behaviour of equals and hashCode. Use of one object from several threads at once is not promised to be safe");
        Check.end();
    }
}
