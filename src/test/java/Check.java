/** Counts answers, prints those that are not the ones that are due. */
final class Check {
    private static final int MOST_PRINTED = 40;
    private final String title;
    private int asked, wrong;

    Check(String title) {
        this.title = title;
    }

    void due(String call, long got, long want) {
        asked++;
        if (got == want) {
            return;
        }
        wrong++;
        if (wrong <= MOST_PRINTED) {
            System.out.println(title + ": " + call + " answered " + got + ", due is " + want);
        }
    }

    void holds(String claim, boolean so) {
        due(claim, so ? 1 : 0, 1);
    }

    boolean isRight() {
        return wrong == 0;
    }

    void end() {
        System.out.println(title + ": " + asked + " answers, " + wrong + " wrong");
        if (wrong != 0 || asked == 0) {
            System.exit(1);
        }
    }
}
