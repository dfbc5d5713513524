/** Counts answers, prints those that are not the ones that are due. */
final class Check {
    private static final int MOST_PRINTED = 40;
    private final String title;
    private int asked, wrong, sentences, askedBefore;
    private String sentence = "";

    Check(String title) {
        this.title = title;
    }

    /** What follows tests a sentence of the document; one that nothing tests is wrong itself. */
    void sentence(String words) {
        endSentence();
        sentence = words;
        sentences++;
        askedBefore = asked;
    }

    private void endSentence() {
        if (sentences > 0 && asked == askedBefore) {
            due("tested", 0, 1);
        }
        sentence = "";
    }

    void due(String call, long got, long want) {
        asked++;
        if (got == want) {
            return;
        }
        wrong++;
        if (wrong <= MOST_PRINTED) {
            String of = sentence.isEmpty() ? "" : "[" + sentence + "] ";
            System.out.println(title + ": " + of + call + " answered " + got + ", due is " + want);
        }
    }

    void holds(String claim, boolean so) {
        due(claim, so ? 1 : 0, 1);
    }

    boolean isRight() {
        return wrong == 0;
    }

    void end() {
        endSentence();
        String of = sentences == 0 ? "" : sentences + " sentences, ";
        System.out.println(title + ": " + of + asked + " answers, " + wrong + " wrong");
        if (wrong != 0 || asked == 0) {
            System.exit(1);
        }
    }
}
