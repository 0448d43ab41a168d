/** Counts and prints the answers that are not the ones that are due, sentence by sentence. */
final class Checks {
    private int seen = 0;
    private int wrong = 0;
    private String sentence = "";
    private int seenBefore = 0;

    /** What is looked at from here on tests this sentence of the document. */
    void sentence(String words) {
        endSentence();
        sentence = words;
    }

    private void endSentence() {
        int count = seen - seenBefore;
        if (!sentence.isEmpty()) {
            System.out.println("  " + count + " answers: " + sentence);
            // A test that looks at nothing would pass unseen.
            wrong += count == 0 ? 1 : 0;
        }
        seenBefore = seen;
    }

    void due(String call, long got, long want) {
        seen++;
        if (got != want) {
            fault(call + " answered " + got + ", due is " + want);
        }
    }

    void due(String call, boolean got, boolean want) {
        due(call, got ? 1 : 0, want ? 1 : 0);
    }

    void due(String call, Object got, Object want) {
        seen++;
        if (!got.equals(want)) {
            fault(call + " gave " + got + ", due is " + want);
        }
    }

    private void fault(String line) {
        wrong++;
        System.out.println(sentence.isEmpty() ? line : line + " [" + sentence + "]");
    }

    /** Ends the program with exit code 1 if an answer was wrong, or if nothing was looked at. */
    void end() {
        endSentence();
        System.out.println(seen + " answers, " + wrong + " not as due");
        if (wrong != 0 || seen == 0) {
            System.exit(1);
        }
    }
}
