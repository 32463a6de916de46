/**
 * A test for each sentence of ../shared/DOC.md that names a boundary case. Each says which promise and which sentence it
 * is for; in the end no sentence is left over.
 */
public final class SentenceTest {
    public static void main(String[] args) {
        SentencesOfCalls.run();
        SentencesOfMemory.run();
        SentencesOfControls.run();
        SentencesOfSteps.run();
        SentencesOfPages.run();
        SentencesOfInstructions.run();
        SentencesOfHalves.run();
        SentencesOfImages.run();
        // The parts' names, and a sentence of notation.
        Sentence.dueAllBut("WORDS", "V[h..l] are bits h to l of V; bits of a constant are written 0x", "PHYSICAL MEMORY",
            "A STEP", "INSTRUCTIONS of 32 bits", "INSTRUCTIONS of 16 bits", "IMAGES");
        Check.end();
    }
}
