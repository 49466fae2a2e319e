/** Counts the answers of one test program, and prints those that are not as due. */
final class Check {
    private final String name;
    private String sentence = "";
    private int sentences = 0;
    private int answersBefore = 0;
    private int right = 0;
    private int wrong = 0;

    Check(String name) {
        this.name = name;
    }

    /** The document's words that the next answers are about; they are printed with each wrong one. */
    void sentence(String words) {
        endSentence();
        sentence = words;
        sentences++;
        answersBefore = right + wrong;
    }

    private void endSentence() {
        if (sentences > 0) {
            holds("a sentence has answers", right + wrong > answersBefore);
        }
    }

    void due(String call, long got, long want) {
        if (got == want) {
            right++;
            return;
        }
        wrong++;
        if (wrong <= 50) {
            String words = sentence.isEmpty() ? "" : " '" + sentence + "'";
            System.out.println(name + words + ": " + call + " answered " + got + ", due is " + want);
        }
    }

    void holds(String what, boolean so) {
        due(what, so ? 1 : 0, 1);
    }

    /** How many answers were wrong so far. */
    int faults() {
        return wrong;
    }

    void finish() {
        endSentence();
        String of = sentences == 0 ? "" : " of " + sentences + " sentences";
        System.out.println(name + ": " + right + " answers" + of + " as due, " + wrong + " not");
        if (wrong != 0 || right == 0) {
            System.exit(1);
        }
    }
}
