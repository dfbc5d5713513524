/** Objects that are set up for a test, and numbers that lie just and far outside. */
final class Jobs {
    static final int LEAST = Integer.MIN_VALUE, GREATEST = Integer.MAX_VALUE;
    private static final int SHORTS = 1;

    private Jobs() {
    }

    /** A job with a fold, so many pages, a gather and a turn. */
    static PressSheets job(int fold, int pages, int gather, int turn) {
        PressSheets x = new PressSheets();
        x.fold(fold);
        x.set(0, pages);
        x.set(1, gather);
        x.set(2, turn);
        return x;
    }

    static void feed(PressSheets x, String text) {
        for (int i = 0; i < text.length(); i++) {
            x.feed(text.charAt(i));
        }
    }

    static int read(PressSheets x, String text) {
        feed(x, text);
        return x.read();
    }

    static void shorts(PressSheets x, int tape, int... values) {
        x.tape(tape, SHORTS, values.length);
        for (int i = 0; i < values.length; i++) {
            x.item(tape, i, values[i]);
        }
    }

    /** All that isn't least .. greatest, from just outside to the ends of the ints. */
    static int[] outside(int least, int greatest) {
        return new int[] {LEAST, LEAST + 1, -1000000007, least - 1, greatest + 1, 1000000007, GREATEST - 1, GREATEST};
    }
}
