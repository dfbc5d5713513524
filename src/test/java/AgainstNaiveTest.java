import java.util.Arrays;

/** The class against the document done word by word: all folds, then long runs of mixed calls with right and wrong numbers. */
public final class AgainstNaiveTest {
    private static final int RUNS = 1500, CALLS = 512;
    private static final int[] FAR = {Integer.MIN_VALUE, Integer.MAX_VALUE, -2, -1, 61, 128, 129, 1000, -100000, 100001, 1000001};
    private static final int LEAST = Integer.MIN_VALUE, GREATEST = Integer.MAX_VALUE;
    private static final int[] FEW = {LEAST, -2, -1, 0, 1, 2, 60, GREATEST};
    private static final int[] SOME = {
        LEAST, LEAST + 1, -100, -2, -1, 0, 1, 2, 3, 4, 5, 6, 7, 8, 15, 16, 17, 31, 32, 59, 60, 61, 126, 127, 128, 129, 310, 311,
        312, 319, 320, 99999, 100000, 100001, 999999, 1000000, 1000001, GREATEST - 1, GREATEST};
    private static final int[] MANY = new int[2600];
    private static final String[] TEXTS = {
        "f12;n20;w0;w1", "n8;g1;t1", "c5,6;w10;w11;w0", "f1;f3;f13", "n0;n7;n7;g3", "c9,0;c9,2", "n12345678", "f15", "w0;w1;w0;w99",
        "n4;", "g", "n1;n2;n3;n4;n5;n6;n7;n8;n9;n10;n11", "t0;t1;t0", "c1,;n3", "f", "f4321;n64;g1;t0;c77,3;w1;w0", "n00128", "x"};
    private static final Check CHECK = new Check("AgainstNaiveTest");
    // steps of a linear congruence: the same numbers on every run
    private static long seed = 20261118;

    public static void main(String[] args) {
        for (int k = 0; k < MANY.length; k++) {
            // both ends of the ints, and all about 0
            MANY[k] = k < 100 ? LEAST + k : k < 200 ? GREATEST - (k - 100) : k - 1000;
        }
        allFolds();
        extremes();
        for (int run = 0; run < RUNS && CHECK.isRight(); run++) {
            mixedRun(run);
        }
        CHECK.end();
    }

    private static void allFolds() {
        for (int word = 1; word <= 4444; word++) {
            if (!String.valueOf(word).matches("[1-4]+")) {
                continue;
            }
            int sides = NaiveSheets.runOf(String.valueOf(word)).size();
            for (int pages : new int[] {sides, 3 * sides - 1, 128}) {
                for (int ways = 0; ways < 4 && pages <= 128; ways++) {
                    oneJob(word, pages, ways / 2, ways % 2);
                }
            }
        }
    }

    private static void oneJob(int word, int pages, int gather, int turn) {
        PressSheets x = new PressSheets();
        NaiveSheets y = new NaiveSheets();
        x.fold(word);
        y.fold(word);
        int[] job = {pages, gather, turn};
        for (int what = 0; what < 3; what++) {
            x.set(what, job[what]);
            y.set(what, job[what]);
        }
        String of = "fold " + word + " pages " + pages + " gather " + gather + " turn " + turn + ": ";
        for (int what = 0; what <= 10; what++) {
            CHECK.due(of + "told " + what, x.told(what), y.told(what));
        }
        for (int i = -1; i <= 32; i++) {
            for (int what = 0; what < 4; what++) {
                CHECK.due(of + "run " + i + " " + what, x.run(i, what), y.run(i, what));
            }
        }
        for (int page = 0; page <= x.told(0) + x.told(9) + 1; page++) {
            for (int what = 0; what < 7; what++) {
                CHECK.due(of + "stands " + page + " " + what, x.stands(page, what), y.stands(page, what));
            }
            CHECK.due(of + "creep " + page, x.creep(page, 0), y.creep(page, 0));
        }
        int sheet = x.told(8) - 1;
        for (int row = -1; row <= 2 * x.told(7); row++) {
            for (int column = -1; column <= 2 * x.told(6); column++) {
                CHECK.due(of + "turned " + row + " " + column, x.turned(sheet, row, column), y.turned(sheet, row, column));
                CHECK.due(of + "page " + row + " " + column, x.page(10 * sheet, row, column), y.page(10 * sheet, row, column));
            }
        }
    }

    /** Every call with each number at the edges of ints and of all that the document limits, each with each. */
    private static void extremes() {
        for (int op = 0; op < 32; op++) {
            int[] numbers = op < 10 ? MANY : op < 22 ? SOME : FEW;
            int arguments = op < 10 ? 1 : op < 22 ? 2 : op < 30 ? 3 : 5;
            int combinations = 1;
            for (int k = 0; k < arguments; k++) {
                combinations *= numbers.length;
            }
            PressSheets x = null;
            NaiveSheets y = null;
            for (int k = 0; k < combinations; k++) {
                if (k % 200 == 0) {
                    x = new PressSheets();
                    y = new NaiveSheets();
                    setUp(x, y, k / 200 % 3);
                }
                int[] a = new int[5];
                for (int n = 0, rest = k; n < arguments; n++) {
                    a[n] = numbers[rest % numbers.length];
                    rest /= numbers.length;
                }
                String name = "extremes " + op + " " + Arrays.toString(a);
                if (arguments == 1) {
                    one(name, x, y, op, a[0]);
                } else if (arguments == 2) {
                    two(name, x, y, op - 10, a[0], a[1]);
                } else if (arguments == 3) {
                    three(name, x, y, op - 22, a[0], a[1], a[2]);
                } else if (op == 30) {
                    CHECK.due(name, x.plan(a[0], a[1], a[2], a[3], a[4]), y.plan(a[0], a[1], a[2], a[3], a[4]));
                } else {
                    CHECK.due(name, x.shift(a[0], a[1], a[2], a[3], a[4]), y.shift(a[0], a[1], a[2], a[3], a[4]));
                }
            }
        }
    }

    /** A new job, one of several sheets with something in each row, one with sixteen rows. */
    private static void setUp(PressSheets x, NaiveSheets y, int kind) {
        if (kind == 0) {
            return;
        }
        x.fold(kind == 1 ? 13 : 4343);
        y.fold(kind == 1 ? 13 : 4343);
        x.set(0, 126);
        y.set(0, 126);
        x.set(kind, 1);
        y.set(kind, 1);
        for (int k = 0; k < 6; k++) {
            x.waits(10 * k);
            y.waits(10 * k);
            x.plan(0, k % 2, 0, k + 1, 0);
            y.plan(0, k % 2, 0, k + 1, 0);
            x.tape(k, k - 1, 3 * k);
            y.tape(k, k - 1, 3 * k);
            x.event(3, 1 + k % 4);
            y.event(3, 1 + k % 4);
        }
        x.press(3);
        y.press(3);
    }

    private static void one(String name, PressSheets x, NaiveSheets y, int op, int a) {
        switch (op) {
            case 0:
                CHECK.due(name, x.told(a) + 10L * x.count(a), y.told(a) + 10L * y.count(a));
                break;
            case 1:
                CHECK.due(name, x.waits(a), y.waits(a));
                break;
            case 2:
                CHECK.due(name, x.press(a), y.press(a));
                break;
            case 3:
                CHECK.due(name, x.clears(a), y.clears(a));
                break;
            case 4:
                CHECK.due(name, 10L * x.line(a) + x.printed(a), 10L * y.line(a) + y.printed(a));
                break;
            case 5:
                CHECK.due(name, 200L * x.missing(a) + x.proof(a), 200L * y.missing(a) + y.proof(a));
                break;
            case 6:
                CHECK.due(name, x.unplan(a), y.unplan(a));
                break;
            case 7:
                CHECK.due(name, 10000L * x.fits(a) + x.after(a), 10000L * y.fits(a) + y.after(a));
                break;
            case 8:
                CHECK.due(name, x.feed(a), y.feed(a));
                break;
            default:
                CHECK.due(name, x.fold(a), y.fold(a));
                break;
        }
    }

    private static void two(String name, PressSheets x, NaiveSheets y, int op, int a, int b) {
        switch (op) {
            case 0:
                CHECK.due(name, x.set(a, b), y.set(a, b));
                break;
            case 1:
                CHECK.due(name, x.run(a, b), y.run(a, b));
                break;
            case 2:
                CHECK.due(name, x.stands(a, b), y.stands(a, b));
                break;
            case 3:
                CHECK.due(name, x.creep(a, b), y.creep(a, b));
                break;
            case 4:
                CHECK.due(name, x.share(a, b), y.share(a, b));
                break;
            case 5:
                CHECK.due(name, x.planned(a, b), y.planned(a, b));
                break;
            case 6:
                CHECK.due(name, x.event(a, b), y.event(a, b));
                break;
            case 7:
                CHECK.due(name, x.peek(a, b), y.peek(a, b));
                break;
            case 8:
                CHECK.due(name, x.item(a, 1, b), y.item(a, 1, b));
                break;
            case 9:
                CHECK.due(name, x.judge(a, 2, b), y.judge(a, 2, b));
                break;
            case 10:
                CHECK.due(name, x.tape(5, a, b), y.tape(5, a, b));
                break;
            default:
                CHECK.due(name, x.item(3, a, (long) b << 7), y.item(3, a, (long) b << 7));
                break;
        }
    }

    private static void three(String name, PressSheets x, NaiveSheets y, int op, int a, int b, int c) {
        switch (op) {
            case 0:
                CHECK.due(name, x.page(a, b, c), y.page(a, b, c));
                break;
            case 1:
                CHECK.due(name, x.turned(a, b, c), y.turned(a, b, c));
                break;
            case 2:
                CHECK.due(name, x.judge(a, b, c), y.judge(a, b, c));
                break;
            case 3:
                CHECK.due(name, x.tape(a, b, c), y.tape(a, b, c));
                break;
            case 4:
                CHECK.due(name, x.item(a, b, c), y.item(a, b, c));
                break;
            case 5:
                CHECK.due(name, x.see(a, b, c, 1), y.see(a, b, c, 1));
                break;
            case 6:
                CHECK.due(name, x.see(0, a, b, c), y.see(0, a, b, c));
                break;
            default:
                CHECK.due(name, x.shift(2, a, 3, b, c), y.shift(2, a, 3, b, c));
                break;
        }
    }

    private static int below(int bound) {
        seed = seed * 6364136223846793005L + 1442695040888963407L;
        return (int) Long.remainderUnsigned(seed >>> 24, bound);
    }

    /** Most often a number of least .. greatest, sometimes one just or far outside. */
    private static int some(int least, int greatest) {
        int luck = below(40);
        if (luck == 0) {
            return FAR[below(FAR.length)];
        }
        if (luck == 1) {
            return least - 1;
        }
        return luck == 2 ? greatest + 1 : least + below(greatest - least + 1);
    }

    private static int someForme() {
        return 10 * below(2 + below(31)) + (below(30) == 0 ? 2 : below(2));
    }

    private static int someFold() {
        int word = 0;
        for (int k = below(4); k >= 0; k--) {
            word = 10 * word + 1 + below(4);
        }
        return below(30) == 0 ? some(0, 9999) : word;
    }

    private static void mixedRun(int run) {
        PressSheets x = new PressSheets();
        NaiveSheets y = new NaiveSheets();
        // Some runs seldom change the job, so that line, plan and printed formes can grow.
        boolean steady = below(3) > 0;
        int call = 0;
        for (; call < 4; call++) {
            both(run, call, x, y, call == 0 ? 0 : 1);
        }
        while (call < CALLS && CHECK.isRight()) {
            int op = below(35);
            boolean changes = op < 2 || op == 26 || op == 29;
            if (!changes || !steady || below(40) == 0) {
                both(run, call, x, y, op);
                call++;
            }
        }
    }

    private static void both(int run, int call, PressSheets x, NaiveSheets y, int op) {
        String name = "run " + run + " call " + call + ": ";
        int a = some(0, 6), b = some(0, 6), c = some(0, 3), d = some(0, 3), e = some(0, 8);
        int forme = someForme(), page = some(1, 12 + below(120)), row = some(0, 1 + below(4)), column = some(0, 1 + below(4));
        int k = some(0, 1 + below(60));
        switch (op) {
            case 0: {
                int fold = someFold();
                CHECK.due(name + "fold " + fold, x.fold(fold), y.fold(fold));
                break;
            }
            case 1: {
                int what = some(0, 4);
                int v = what == 0 ? page : what > 2 ? some(0, below(3) == 0 ? 1000000 : 40) : some(0, 1);
                CHECK.due(name + "set " + what + " " + v, x.set(what, v), y.set(what, v));
                break;
            }
            case 2:
                CHECK.due(name + "told " + a, x.told(a + c), y.told(a + c));
                break;
            case 3:
                CHECK.due(name + "run " + k + " " + c, x.run(k, c), y.run(k, c));
                break;
            case 4:
                CHECK.due(name + "stands " + page + " " + a, x.stands(page, a), y.stands(page, a));
                break;
            case 5:
                CHECK.due(name + "page " + forme, x.page(forme, row, column), y.page(forme, row, column));
                break;
            case 6:
                CHECK.due(name + "turned " + a, x.turned(a, row, column), y.turned(a, row, column));
                break;
            case 7: {
                int what = some(0, 1);
                CHECK.due(name + "creep " + page + " " + what, x.creep(page, what), y.creep(page, what));
                break;
            }
            case 8: {
                int part = some(0, 1);
                CHECK.due(name + "share " + page + " " + part, x.share(page, part), y.share(page, part));
                break;
            }
            case 9:
            case 10:
                CHECK.due(name + "waits " + forme, x.waits(forme), y.waits(forme));
                break;
            case 11:
                CHECK.due(name + "press " + c, x.press(c), y.press(c));
                break;
            case 12:
                CHECK.due(name + "clears " + k, x.clears(k), y.clears(k));
                break;
            case 13:
                CHECK.due(name + "line " + k, x.line(k), y.line(k));
                break;
            case 14:
                CHECK.due(name + "missing " + c, x.missing(c), y.missing(c));
                break;
            case 15:
                CHECK.due(name + "printed " + k, x.printed(k), y.printed(k));
                break;
            case 16:
            case 17: {
                int head = some(0, 1);
                if (below(2) == 0) {
                    // often just as it should be, so that the proof gets far
                    forme = 10 * Math.max(0, y.stands(page, 0)) + Math.max(0, y.stands(page, 1));
                    row = y.stands(page, 2);
                    column = y.stands(page, 3);
                }
                CHECK.due(name + "plan " + forme, x.plan(forme, row, column, page, head), y.plan(forme, row, column, page, head));
                break;
            }
            case 18:
                CHECK.due(name + "unplan " + page, x.unplan(page), y.unplan(page));
                break;
            case 19:
                CHECK.due(name + "planned " + k + " " + c, x.planned(k, c), y.planned(k, c));
                break;
            case 20:
                if (below(4) == 0) {
                    CHECK.due(name + "plans", x.plans(), y.plans());
                }
                break;
            case 21:
                CHECK.due(name + "proof " + c, x.proof(c), y.proof(c));
                break;
            case 22:
                CHECK.due(name + "see " + forme, x.see(forme, row, column, page), y.see(forme, row, column, page));
                break;
            case 23:
                seeSomethingDue(name, x, y, page);
                CHECK.due(name + "fits 0", x.fits(0), y.fits(0));
                CHECK.due(name + "fits " + a, x.fits(a), y.fits(a));
                break;
            case 24: {
                int what = some(-1, 3);
                int n = what == 0 ? page : some(0, what == 3 ? 4 : 1);
                CHECK.due(name + "event " + what + " " + n, x.event(what, n), y.event(what, n));
                break;
            }
            case 25:
                CHECK.due(name + "after " + c, x.after(c), y.after(c));
                break;
            case 26:
                readSome(name, x, y);
                break;
            case 27:
                judgeSome(name, x, y, forme, a, k);
                break;
            case 28:
                if (below(4) == 0) {
                    CHECK.due(name + "image", x.image(), y.image());
                }
                break;
            case 29:
                CHECK.due(name + "undo", x.undo(), y.undo());
                break;
            case 30:
                CHECK.due(name + "count " + a, x.count(a), y.count(a));
                break;
            case 31: {
                int sort = some(-1, 4);
                CHECK.due(name + "tape " + a, x.tape(a, sort, k), y.tape(a, sort, k));
                break;
            }
            case 32: {
                long v = (long) some(-200, 200) * (1L << below(64));
                CHECK.due(name + "item " + a, x.item(a, e, v), y.item(a, e, v));
                break;
            }
            case 33:
                CHECK.due(name + "peek " + a, x.peek(a, e), y.peek(a, e));
                break;
            default:
                CHECK.due(name + "shift", x.shift(a, c, b, d, e), y.shift(a, c, b, d, e));
                break;
        }
    }

    /** Sees a page where it stands, so that some folds fit. */
    private static void seeSomethingDue(String name, PressSheets x, NaiveSheets y, int page) {
        if (below(2) == 0) {
            CHECK.due(name + "see none", x.see(-1, 0, 0, 0), y.see(-1, 0, 0, 0));
        }
        int forme = 10 * y.stands(page, 0) + y.stands(page, 1), row = y.stands(page, 2), column = y.stands(page, 3);
        CHECK.due(name + "see " + page, x.see(forme, row, column, page), y.see(forme, row, column, page));
    }

    private static void readSome(String name, PressSheets x, NaiveSheets y) {
        String text = TEXTS[below(TEXTS.length)];
        int other = below(3) == 0 ? below(text.length()) : -1;
        for (int k = 0; k < text.length(); k++) {
            int sign = k == other ? some(0, 127) : text.charAt(k);
            CHECK.due(name + "feed " + sign, x.feed(sign), y.feed(sign));
        }
        if (below(8) > 0) {
            CHECK.due(name + "read " + text, x.read(), y.read());
        }
    }

    /** Judges a tape on which a forme is told, most often rightly. */
    private static void judgeSome(String name, PressSheets x, NaiveSheets y, int forme, int tape, int from) {
        if (below(2) == 0) {
            CHECK.due(name + "tape for judge", x.tape(tape, 1, from), y.tape(tape, 1, from));
            int at = below(4);
            for (int row = 0; row < y.told(7); row++) {
                for (int column = 0; column < y.told(6); column++) {
                    int page = y.page(forme, row, column);
                    int v = page > y.told(0) ? 0 : below(60) == 0 ? page + 1 : page;
                    CHECK.due(name + "item for judge", x.item(tape, at, v), y.item(tape, at, v));
                    at++;
                }
            }
        }
        int i = some(0, 3);
        CHECK.due(name + "judge " + forme + " " + tape + " " + i, x.judge(forme, tape, i), y.judge(forme, tape, i));
    }
}
