import java.util.function.IntToLongFunction;

/**
 * Promises 1 to 35: each of their sentences that names an edge (too small, too large, empty, full, refused) has a test of
 * its own, headed by the promise's number and its words. The answers are worked out by hand.
 */
public final class CallsEdgesTest {
    private static final int NONE = -1, BAD = -2, STATE = -3, FULL = -4, OVER = -15, NO_MORE = -5;
    private static final int NOTHING = -11, CAST = -12, PLACE = -13, SIZE = -14;
    private static final long NO = Long.MIN_VALUE;
    private static final int BYTES = 0, SHORTS = 1, INTS = 2, LONGS = 3, BOOLEANS = 4;
    private static final int LEAST = Jobs.LEAST, GREATEST = Jobs.GREATEST;
    private static final Check CHECK = new Check("CallsEdgesTest");

    public static void main(String[] args) {
        theJob();
        runAndStands();
        pageAndTurned();
        creepAndShare();
        waits();
        press();
        clearsAndLine();
        missing();
        printed();
        plan();
        unplanAndPlanned();
        plans();
        proof();
        see();
        fits();
        event();
        after();
        feed();
        read();
        judge();
        imageAndUndo();
        count();
        tape();
        item();
        peek();
        shift();
        CHECK.end();
    }

    private static void due(String call, long got, long want) {
        CHECK.due(call, got, want);
    }

    /** The numbers at both ends of a range are taken; those just and far outside are answered with a refusal. */
    private static void range(String call, int least, int greatest, long refusal, IntToLongFunction ask) {
        for (int v : new int[] {least, greatest}) {
            long got = ask.applyAsLong(v);
            CHECK.holds(call + " takes " + v + " (answered " + got + ")", got != refusal);
        }
        outside(call, least, greatest, refusal, ask);
    }

    private static void outside(String call, int least, int greatest, long want, IntToLongFunction ask) {
        for (int v : Jobs.outside(least, greatest)) {
            due(call + " of " + v, ask.applyAsLong(v), want);
        }
    }

    /** What lies behind the end is -5, what is below 0 is NONE. */
    private static void listEnds(String call, int size, IntToLongFunction ask) {
        for (int k : new int[] {size, size + 1, 1000, GREATEST - 1, GREATEST}) {
            due(call + " of " + k, ask.applyAsLong(k), NO_MORE);
        }
        for (int k : new int[] {-1, -2, -5, LEAST + 1, LEAST}) {
            due(call + " of " + k, ask.applyAsLong(k), NONE);
        }
    }

    private static void theJob() {
        CHECK.sentence("1: Four pages on one sheet, folded once");
        PressSheets x = new PressSheets();
        due("pages", x.told(0), 4);
        due("sheets", x.told(8), 1);
        due("the fold", x.told(5), 1);
        due("a fifth page", x.stands(5, 0), NONE);
        due("all are missing", x.missing(0), 4);
        due("no fault but that nothing is told", 10 * x.proof(0) + x.proof(1), 11);
        for (int what = 0; what <= 5; what++) {
            due("count " + what, x.count(what), 0);
        }

        CHECK.sentence("2: The FOLD becomes another one (told by figures): as it was. BAD");
        due("another one", x.fold(4444), 1);
        due("the same", x.fold(4444), 4444);
        due("refused", x.fold(44444), BAD);
        due("back", x.fold(1), 4444);

        CHECK.sentence("3: becomes v: what it was. NONE; BAD");
        due("what it was", x.set(0, 128), 4);
        due("the same", x.set(0, 128), 128);
        outside("set what", 0, 4, NONE, what -> x.set(what, 1));
        range("pages", 1, 128, BAD, v -> x.set(0, v));
        range("gather", 0, 1, BAD, v -> x.set(1, v));
        range("turn", 0, 1, BAD, v -> x.set(2, v));
        range("thick", 0, 1000000, BAD, v -> x.set(3, v));
        range("copies", 1, 100000, BAD, v -> x.set(4, v));

        CHECK.sentence("4: As they are (0 .. 4); 5 FOLD .. 9 how many PAGES are EMPTY. NONE");
        range("told", 0, 9, NONE, x::told);
        due("the greatest thickness", x.told(3), 1000000);
        due("the most copies", x.told(4), 100000);
        due("most sheets", x.told(8), 32);
        due("no page is empty", x.told(9), 0);
        x.set(0, 1);
        due("all but one are empty", x.told(9), 3);
    }

    private static void runAndStands() {
        CHECK.sentence("5: Of number i of THE RUN: what 0 .. 3. NONE");
        PressSheets x = Jobs.job(2134, 33, 0, 0);
        range("run number", 0, 31, NONE, i -> x.run(i, 0));
        range("run what", 0, 3, NONE, what -> x.run(31, what));
        due("a second sheet has no numbers of its own", x.run(32, 0), NONE);

        CHECK.sentence("6: the PAGE behind it (on the other SIDE of its LEAF; also EMPTY ones)");
        due("an empty one behind page 33", x.stands(33, 6), 34);
        due("an empty one behind an empty one", x.stands(64, 6), 63);
        due("a page behind the first empty one", x.stands(34, 6), 33);
        x.set(1, 1);
        due("gathered inside: an even page is behind an odd one", x.stands(17, 6), 18);
        due("the middle of the pages is no leaf", x.stands(32, 6), 31);
        due("behind the last one", x.stands(64, 6), 63);
        CHECK.sentence("6: NONE: page (EMPTY ones may be asked), what");
        range("stands page", 1, 64, NONE, page -> x.stands(page, 5));
        range("stands what", 0, 6, NONE, what -> x.stands(64, what));
        due("a page and a what that aren't there", x.stands(0, 7), NONE);
    }

    private static void pageAndTurned() {
        CHECK.sentence("7: The PAGE of a FORME at a row, column as seen (EMPTY ones too). NONE");
        PressSheets x = Jobs.job(113, 17, 0, 0);
        // 113: row 0 lies over row 1, from above its leaves turned: 3 0 1 2, then 2 1 0 3
        due("an empty page", x.page(10, 0, 1), 22);
        due("the last place", x.page(11, 1, 0), 32);
        due("the one beside it", x.page(11, 1, 3), x.stands(x.page(10, 1, 0), 6));
        range("page row", 0, 1, NONE, row -> x.page(0, row, 0));
        range("page column", 0, 3, NONE, column -> x.page(0, 0, column));
        range("page forme", 0, 11, NONE, forme -> x.page(forme, 1, 3));
        due("a forme between two sheets", x.page(2, 0, 0), NONE);
        due("the last one between two sheets", x.page(9, 0, 0), NONE);

        CHECK.sentence("8: The PAGE of WORK AND TURN of a SHEET at a row, column. NONE");
        range("turned sheet", 0, 1, NONE, sheet -> x.turned(sheet, 0, 0));
        range("turned row, sideways", 0, 1, NONE, row -> x.turned(1, row, 7));
        range("turned column, sideways", 0, 7, NONE, column -> x.turned(1, 1, column));
        due("the last column is the back's last", x.turned(1, 1, 7), x.page(11, 1, 3));
        due("the first one of the back", x.turned(1, 1, 4), 32);
        due("an empty page", x.turned(1, 0, 1), 22);
        x.set(2, 1);
        range("turned row, headways", 0, 3, NONE, row -> x.turned(1, row, 3));
        range("turned column, headways", 0, 3, NONE, column -> x.turned(1, 3, column));
        due("the first row of the back", x.turned(1, 2, 3), 32);
        // ten times this sheet is a small number again, if it wraps around
        due("a sheet that wraps around", x.turned(429496730, 0, 0), NONE);
        due("another one", x.turned(-429496729, 0, 0), NONE);
    }

    private static void creepAndShare() {
        CHECK.sentence("9: CREEP (what 0), CREEP times COPIES (1; OVER)");
        PressSheets x = Jobs.job(1, 128, 1, 0);
        x.set(3, 1000000);
        due("the greatest creep", x.creep(64, 0), 31000000);
        due("beside it", x.creep(65, 0), 31000000);
        due("times 1", x.creep(64, 1), 31000000);
        x.set(4, 69);
        due("times 69", x.creep(64, 1), 2139000000);
        x.set(4, 70);
        due("times 70", x.creep(64, 1), OVER);
        due("of less creep", x.creep(62, 1), 2100000000);
        x.set(4, 100000);
        due("no creep at all", x.creep(128, 1), 0);
        CHECK.sentence("9: NONE: page (EMPTY ones may be asked), what");
        x.set(0, 126);
        range("creep page", 1, 128, NONE, page -> x.creep(page, 0));
        range("creep page, times copies", 1, 128, NONE, page -> x.creep(page, 1));
        range("creep what", 0, 1, NONE, what -> x.creep(128, what));
        CHECK.sentence("10: SHARE; part 0 above, 1 below the line");
        due("the greatest, above", x.share(64, 0), 1);
        due("the greatest, below", x.share(64, 1), 1);
        due("the least, above", x.share(2, 0), 0);
        due("the least, below", x.share(2, 1), 1);
        due("a prime below", x.share(3, 1), 31);
        CHECK.sentence("10: NO: page (EMPTY ones may be asked), part");
        range("share page", 1, 128, NO, page -> x.share(page, 0));
        range("share page, below the line", 1, 128, NO, page -> x.share(page, 1));
        range("share part", 0, 1, NO, part -> x.share(128, part));
    }

    private static void waits() {
        CHECK.sentence("11: A FORME waits, the last one: how many do");
        PressSheets x = Jobs.job(1, 128, 0, 0);
        due("the greatest forme", x.waits(311), 1);
        due("the least", x.waits(0), 2);
        due("the last one", x.line(1), 0);
        CHECK.sentence("11: NONE: forme");
        outside("waits", 0, 311, NONE, x::waits);
        due("side 2", x.waits(2), NONE);
        due("side 9", x.waits(309), NONE);
        x.set(0, 124);
        due("a sheet that isn't there any more", x.waits(310), NONE);
        due("the last one that is", x.waits(301), 1);
        CHECK.sentence("11: STATE: it waits already, it is PRINTED");
        due("it waits already", x.waits(301), STATE);
        x.press(1);
        due("it is printed", x.waits(301), STATE);
        x.waits(300);
        x.clears(30);
        due("it left the line", x.waits(300), 1);
        x.waits(0);
        x.waits(1);
        x.clears(0);
        due("a printed one, still", x.waits(301), STATE);
        CHECK.sentence("11: FULL: 40");
        for (int k = 0; k < 39; k++) {
            due("forme " + k, x.waits(10 * (k / 2) + k % 2), k + 2);
        }
        due("the 41st", x.waits(200), FULL);
        due("40 wait", x.count(3), 40);
        due("one leaves", x.press(1), 1);
        due("the 40th", x.waits(200), 40);
    }

    private static void press() {
        CHECK.sentence("12: n (1 .. 99) STROKES");
        PressSheets x = Jobs.job(1, 128, 0, 0);
        outside("press", 1, 99, BAD, x::press);
        for (int k = 0; k < 40; k++) {
            x.waits(10 * (k / 2) + k % 2);
        }
        for (int n : new int[] {0, 100, LEAST, GREATEST}) {
            due("press " + n, x.press(n), BAD);
        }
        due("refused: all wait", x.count(3), 40);
        due("one", x.press(1), 1);
        due("39 wait", x.count(3), 39);
        CHECK.sentence("12: fewer, if none waits: how many FORMES were PRINTED");
        due("99", x.press(99), 39);
        due("none is left", x.press(99), 0);
        due("nor for one stroke", x.press(1), 0);
        due("40 are printed", x.count(4), 40);
    }

    private static void clearsAndLine() {
        CHECK.sentence("13: FORMES of a SHEET leave the line: how many. NONE");
        PressSheets x = Jobs.job(1, 128, 0, 0);
        range("clears", 0, 31, NONE, x::clears);
        due("of an empty line", x.clears(0), 0);
        x.waits(311);
        x.waits(1);
        x.waits(310);
        x.waits(0);
        x.waits(300);
        due("the greatest sheet", x.clears(31), 2);
        due("the least sheet", x.clears(0), 2);
        due("once more", x.clears(0), 0);
        due("one is left", x.line(0), 300);
        due("it leaves", x.clears(30), 1);
        due("the line is empty", x.line(0), NO_MORE);
        due("times 10 it wraps around", x.clears(429496730), NONE);

        CHECK.sentence("14: The k-th (0 the first) FORME that waits; -5. NONE: k is below 0");
        listEnds("line, empty", 0, x::line);
        x.waits(20);
        due("the first", x.line(0), 20);
        listEnds("line of one", 1, x::line);
        for (int k = 0; k < 39; k++) {
            x.waits(30 + 10 * (k / 2) + k % 2);
        }
        due("the last of 40", x.line(39), 220);
        listEnds("line of 40", 40, x::line);
    }

    private static void missingIs(PressSheets x, int many, int first, int last) {
        due("how many", x.missing(0), many);
        due("the first", x.missing(1), first);
        due("the last", x.missing(2), last);
    }

    private static void missing() {
        CHECK.sentence("15: PAGES (1 .. N) that aren't PRINTED: how many (what 0), the first (1; -5), the last (2; -5). NONE");
        PressSheets x = Jobs.job(1, 1, 0, 0);
        missingIs(x, 1, 1, 1);
        x.waits(0);
        x.press(1);
        missingIs(x, 1, 1, 1);
        x.waits(1);
        x.press(1);
        missingIs(x, 0, NO_MORE, NO_MORE);
        x.set(0, 128);
        missingIs(x, 128, 1, 128);
        for (int sheet = 0; sheet < 32; sheet++) {
            x.waits(10 * sheet);
            x.waits(10 * sheet + 1);
            x.press(sheet == 31 ? 1 : 2);
        }
        missingIs(x, 2, 125, 128);
        x.press(1);
        missingIs(x, 0, NO_MORE, NO_MORE);
        outside("missing", 0, 2, NONE, x::missing);
    }

    private static void printed() {
        CHECK.sentence("16: FORMES that are PRINTED: the k-th, in the order in which they were; -5. NONE: k is below 0");
        PressSheets x = Jobs.job(1, 128, 0, 0);
        listEnds("printed, none", 0, x::printed);
        x.waits(1);
        x.waits(0);
        due("the back goes to the end, so the front is the first", x.press(3), 2);
        due("the first", x.printed(0), 0);
        due("the second", x.printed(1), 1);
        listEnds("printed of two", 2, x::printed);
        for (int sheet = 1; sheet < 32; sheet++) {
            x.waits(10 * sheet);
            x.waits(10 * sheet + 1);
            x.press(2);
        }
        due("64 are printed", x.count(4), 64);
        due("the last of 64", x.printed(63), 311);
        listEnds("printed of 64", 64, x::printed);
    }

    private static void plan() {
        CHECK.sentence("17: On a CELL (of a FORME, as seen) a PAGE, a HEAD are told: how many CELLS are");
        PressSheets x = Jobs.job(13, 9, 0, 0);
        due("one", x.plan(11, 1, 1, 9, 1), 1);
        due("the same anew", x.plan(11, 1, 1, 1, 0), 1);
        due("another one", x.plan(11, 1, 0, 1, 0), 2);
        CHECK.sentence("17: NONE: forme, row, column");
        range("plan forme", 0, 11, NONE, forme -> x.plan(forme, 0, 0, 1, 0));
        range("plan row", 0, 1, NONE, row -> x.plan(0, row, 0, 1, 0));
        range("plan column", 0, 1, NONE, column -> x.plan(0, 0, column, 1, 0));
        due("side 2", x.plan(2, 0, 0, 1, 0), NONE);
        CHECK.sentence("17: BAD: page (1 .. N), head");
        range("plan page", 1, 9, BAD, page -> x.plan(0, 0, 0, page, 0));
        range("plan head", 0, 1, BAD, head -> x.plan(0, 0, 0, 1, head));
        CHECK.sentence("17: FULL: 60 other CELLS are told");
        PressSheets y = Jobs.job(1111, 64, 0, 0);
        for (int k = 0; k < 60; k++) {
            due("cell " + k, y.plan(k / 32 * 10 + k / 16 % 2, 0, k % 16, 1, 0), k + 1);
        }
        due("the 61st", y.plan(11, 0, 12, 1, 0), FULL);
        due("one of the 60", y.plan(11, 0, 11, 64, 1), 60);
        y.plan(0, 0, 0, 2, 0);
        due("one goes", y.unplan(2), 1);
        due("the 60th", y.plan(11, 0, 12, 1, 0), 60);
        due("the one that went is another one now", y.plan(0, 0, 0, 2, 0), FULL);
    }

    private static void unplanAndPlanned() {
        CHECK.sentence("18: What is told of a PAGE goes: how many CELLS did. NONE: page (1 .. N)");
        PressSheets x = Jobs.job(1111, 33, 0, 0);
        range("unplan", 1, 33, NONE, x::unplan);
        due("of an empty plan", x.unplan(1), 0);
        for (int k = 0; k < 60; k++) {
            x.plan(k / 32 * 10 + k / 16 % 2, 0, k % 16, k == 59 ? 33 : k == 0 ? 1 : 7, 1);
        }
        due("58 go", x.unplan(7), 58);
        due("two are left", x.count(5), 2);
        due("the first", x.planned(0, 1), 1);
        due("the last one closes up", x.planned(1, 1), 33);
        due("none is told any more", x.unplan(7), 0);
        CHECK.sentence("19: What is told of the k-th CELL (0 the oldest): what 0 .. 2. NONE");
        range("planned cell", 0, 1, NONE, k -> x.planned(k, 0));
        range("planned what", 0, 2, NONE, what -> x.planned(1, what));
        due("all of the last one", 10000 * x.planned(1, 2) + x.planned(1, 0), 11511);
        due("the last goes", x.unplan(33), 1);
        due("only one is left", x.planned(1, 0), NONE);
        due("the first goes", x.unplan(1), 1);
        outside("planned, empty", 0, -1, NONE, k -> x.planned(k, 0));
    }

    private static void plans() {
        CHECK.sentence("20: All that STANDS (not EMPTY) is told, SHEET by SHEET, FRONT first, row by row");
        PressSheets x = Jobs.job(1, 5, 0, 0);
        due("five", x.plans(), 5);
        int[][] want = {{0, 2}, {1, 3}, {500, 4}, {501, 1}, {1501, 5}};
        for (int k = 0; k < want.length; k++) {
            due("cell " + k, x.planned(k, 0), want[k][0]);
            due("page " + k, x.planned(k, 1), want[k][1]);
        }
        for (int ways = 0; ways < 4; ways++) {
            x = Jobs.job(1324, 64, ways / 2, ways % 2);
            due("60 of 64", x.plans(), 60);
            for (int k = 0; k < 60; k++) {
                due("in order, " + k, x.planned(k, 0), k / 32 * 1000 + k / 16 % 2 * 500 + k % 16 / 4 * 20 + k % 4);
                due("its page, " + k, x.planned(k, 1), x.page(k / 32 * 10 + k / 16 % 2, k % 16 / 4, k % 4));
                due("its head, " + k, x.planned(k, 2), x.stands(x.planned(k, 1), 4));
            }
        }
        CHECK.sentence("20: (a CELL that is told already anew in its place");
        x = Jobs.job(1, 5, 0, 0);
        x.plans();
        x.plan(1, 0, 0, 1, 1);
        x.plan(10, 0, 1, 4, 1);
        due("the cell of an empty page stays", x.plans(), 6);
        due("anew in its place", 1000 * x.planned(2, 1) + x.planned(2, 0), 4500);
        due("its head is anew", x.planned(2, 2), 0);
        due("the other one as it was", 1000 * x.planned(5, 1) + 10 * x.planned(5, 2), 4010);
        CHECK.sentence("20: of others as many as there is room for): how many CELLS are told");
        x = Jobs.job(2222, 96, 0, 0);
        x.plan(21, 0, 15, 1, 1);
        due("59 others", x.plans(), 60);
        // the last leaf of 2222 is column 0: its back is seen at column 15
        due("one told already, far behind the room, anew", x.planned(0, 1), 96);
        due("its head", x.planned(0, 2), 0);
        due("the last one", x.planned(59, 0), 1510);
        due("once more", x.plans(), 60);
        due("a page without room is nowhere", x.proof(0), 1);
        x.set(0, 60);
        due("just as many as there is room for", x.plans(), 60);
        due("no fault", x.proof(0), 0);
    }

    private static void proof() {
        CHECK.sentence("21: The FAULT of THE PROOF (k 0), its CAUSE (1), the CAUSE of that (2), and so on");
        PressSheets x = Jobs.job(1, 128, 0, 0);
        x.plan(311, 0, 0, 1, 0);
        int[] want = {3, 1, 31500, 501};
        for (int k = 0; k < want.length; k++) {
            due("proof " + k, x.proof(k), want[k]);
        }
        CHECK.sentence("21: -5: there is none such. NONE: k is below 0");
        listEnds("proof of fault 3", 4, x::proof);
        x.plan(0, 0, 0, 1, 0);
        listEnds("proof of fault 2", 4, x::proof);
        x.unplan(1);
        due("nowhere", x.proof(0), 1);
        listEnds("proof of fault 1", 2, x::proof);
        x.plan(1, 0, 1, 1, 1);
        due("head", x.proof(0), 4);
        listEnds("proof of fault 4", 4, x::proof);
        x.set(0, 1);
        x.plans();
        due("none", x.proof(0), 0);
        listEnds("proof without a fault", 1, x::proof);
    }

    private static void see() {
        CHECK.sentence("22: What is SEEN comes: how many there are");
        PressSheets x = new PressSheets();
        for (int k = 1; k <= 5; k++) {
            due("row " + k, x.see(0, 0, 0, 1), k);
        }
        CHECK.sentence("22: FULL: 5");
        due("the sixth", x.see(0, 0, 0, 1), FULL);
        due("five", x.count(0), 5);
        CHECK.sentence("22: (forme -1: none then, 0, all else does not matter)");
        due("none then", x.see(-1, LEAST, GREATEST, 0), 0);
        due("none", x.count(0), 0);
        due("of none", x.see(-1, 16, -1, 129), 0);
        CHECK.sentence("22: BAD: forme (0 .. 319, SIDE 0, 1), row, column (0 .. 15), page (1 .. 128)");
        for (int forme = -2; forme <= 321; forme++) {
            if (forme != -1) {
                boolean is = forme >= 0 && forme < 320 && forme % 10 < 2;
                due("forme " + forme, new PressSheets().see(forme, 0, 0, 1), is ? 1 : BAD);
            }
        }
        PressSheets y = new PressSheets();
        for (int forme : new int[] {LEAST, LEAST + 1, -10, -9, 1000, GREATEST - 1, GREATEST}) {
            due("forme " + forme, y.see(forme, 0, 0, 1), BAD);
        }
        outside("see row", 0, 15, BAD, row -> y.see(0, row, 0, 1));
        outside("see column", 0, 15, BAD, column -> y.see(0, 0, column, 1));
        outside("see page", 1, 128, BAD, page -> y.see(0, 0, 0, page));
        due("none came", y.count(0), 0);
        due("the least", y.see(0, 0, 0, 1), 1);
        due("the greatest", y.see(311, 15, 15, 128), 2);
    }

    private static void fits() {
        CHECK.sentence("23: FITS: what 0 how many, 1 the least; -5. NONE");
        PressSheets x = new PressSheets();
        outside("fits", 0, 1, NONE, x::fits);
        due("all", x.fits(0), 4);
        due("the least", x.fits(1), 1);
        x.see(0, 0, 0, 1);
        due("none: page 1 is never on a front", x.fits(0), 0);
        due("there is no least", x.fits(1), NO_MORE);
        x.fold(1111);
        due("none of 256", x.fits(0), 0);
        due("no least of them", x.fits(1), NO_MORE);
        x.see(-1, 0, 0, 0);
        x.see(1, 0, 0, 1);
        due("page 1 first: so many", x.fits(0) > 0 ? 1 : 0, 1);
    }

    private static void event() {
        CHECK.sentence("24: A row comes to EVENTS: how many there are");
        PressSheets x = new PressSheets();
        int[][] rows = {{0, 1}, {0, 128}, {1, 0}, {1, 1}, {2, 0}, {2, 1}, {3, 1}, {3, 4}};
        for (int k = 0; k < 8; k++) {
            due("row " + k, x.event(rows[k][0], rows[k][1]), k + 1);
        }
        CHECK.sentence("24: FULL: 8");
        for (int[] row : rows) {
            due("the ninth", x.event(row[0], row[1]), FULL);
        }
        due("eight", x.count(1), 8);
        CHECK.sentence("24: (what -1: none then, 0, n does not matter)");
        due("none then", x.event(-1, LEAST), 0);
        due("none", x.count(1), 0);
        due("of none", x.event(-1, GREATEST), 0);
        CHECK.sentence("24: NONE: what; BAD: n");
        for (int what : new int[] {LEAST, LEAST + 1, -3, -2, 4, 5, GREATEST}) {
            due("what " + what, x.event(what, 1), NONE);
        }
        outside("pages", 1, 128, BAD, n -> x.event(0, n));
        outside("gather", 0, 1, BAD, n -> x.event(1, n));
        outside("turn", 0, 1, BAD, n -> x.event(2, n));
        outside("a figure", 1, 4, BAD, n -> x.event(3, n));
        due("none came", x.count(1), 0);
        x.fold(4321);
        due("a fifth figure may be told", x.event(3, 1), 1);
    }

    private static void after() {
        CHECK.sentence("25: AFTER: what 0 SHEETS, 1 the CELL, 2 EMPTY. NONE");
        PressSheets x = Jobs.job(1, 128, 1, 0);
        outside("after", 0, 2, NONE, x::after);
        due("sheets", x.after(0), 32);
        due("the cell", x.after(1), 501);
        due("none is empty", x.after(2), 0);
        x.event(0, 1);
        x.event(3, 1);
        x.event(3, 1);
        x.event(3, 1);
        x.event(3, 2);
        x.event(2, 1);
        due("one sheet", x.after(0), 1);
        due("most are empty", x.after(2), 31);
        // by 1111 the leaf of column 14 comes to lie uppermost, its back above; headways its column is seen as it is
        due("the cell by 1111, not by a fifth figure", x.after(1), 514);
        due("pages are as they were", x.told(0), 128);
    }

    private static void feed() {
        CHECK.sentence("26: A sign (0 .. 127) comes behind THE TEXT's: how many it has");
        PressSheets x = new PressSheets();
        due("the least", x.feed(0), 1);
        due("the greatest", x.feed(127), 2);
        CHECK.sentence("26: BAD; FULL");
        outside("feed", 0, 127, BAD, x::feed);
        for (int k = 3; k <= 100; k++) {
            due("sign " + k, x.feed('n'), k);
        }
        due("the 101st", x.feed('n'), FULL);
        due("0 by full", x.feed(0), FULL);
        due("100", x.count(2), 100);
        due("its first sign is the fault", x.read(), -10);
        due("room again", x.feed('n'), 1);
    }

    private static void read() {
        CHECK.sentence("27: THE TEXT, which is empty then (by a FAULT, too), is a job");
        PressSheets x = new PressSheets();
        due("a job", Jobs.read(x, "n9"), 1);
        due("empty then", x.count(2), 0);
        due("a fault", Jobs.read(x, "n9x"), -12);
        due("empty then", x.count(2), 0);
        due("none was done, and it is empty then", 10 * Jobs.read(x, "n0") + x.count(2), 0);
        due("an empty text", x.read(), -10);
        due("and once more", x.read(), -10);
        due("a new text begins at its first sign", Jobs.read(x, "n8"), 1);
        CHECK.sentence("27: how many CLAUSES were done; -10 less the FAULT OF THE TEXT");
        due("1 of 1", Jobs.read(x, "f1"), 1);
        due("10 of 10", Jobs.read(x, "f1;".repeat(9) + "f2"), 10);
        due("0 of 10", Jobs.read(x, "n0;".repeat(9) + "n0"), 0);
        due("5 of 10", Jobs.read(x, "n0;n1;".repeat(4) + "n1;n0"), 5);
        due("a fault at 0", Jobs.read(x, "0"), -10);
        due("a fault at 99", Jobs.read(x, "n0000001;".repeat(5) + "c0000001,0000002;".repeat(3) + "w99x"), -109);
        due("a fault at 100", Jobs.read(x, "n0000001;".repeat(5) + "c0000001,0000002;".repeat(2) + "c0000001,0000002;f11;"), -110);
    }

    private static void judge() {
        CHECK.sentence("28: JUDGED from place i of a TAPE on");
        PressSheets x = Jobs.job(4, 6, 0, 0);
        Jobs.shorts(x, 5, 0, 3, 2, 0, 0);
        due("the front of sheet 0", x.judge(0, 5, 1), NO_MORE);
        due("the front of sheet 1: page 6 below", x.judge(10, 5, 3), 1);
        due("it ends behind one", x.judge(10, 5, 4), 101);
        due("it ends ahead of one", x.judge(10, 5, 5), 100);
        due("below 0", x.judge(10, 5, -1), 100);
        CHECK.sentence("28: NONE: forme, tape");
        range("judge forme", 0, 11, NONE, forme -> x.judge(forme, 5, 0));
        range("judge tape", 0, 5, NONE, tape -> x.judge(0, tape, 0));
        due("side 2", x.judge(2, 5, 0), NONE);
        CHECK.sentence("28: CAST: it is no row of shorts");
        for (int sort : new int[] {BYTES, INTS, LONGS, BOOLEANS}) {
            for (int n : new int[] {0, 2, 60}) {
                x.tape(4, sort, n);
                due("sort " + sort + " of " + n, x.judge(0, 4, 0), CAST);
            }
        }
        x.tape(4, SHORTS, 0);
        due("a row of no shorts is one", x.judge(0, 4, 0), 100);
        x.tape(4, -1, 0);
        due("nothing is no other sort", x.judge(0, 4, 0), 100);
    }

    private static void imageAndUndo() {
        CHECK.sentence("30: STATE: there is none");
        PressSheets x = Jobs.job(1, 128, 0, 0);
        due("none", x.undo(), STATE);
        due("as it was", x.told(0), 128);
        CHECK.sentence("29: THE IMAGE is taken: SHEETS");
        due("most sheets", x.image(), 32);
        x.set(0, 1);
        CHECK.sentence("30: All is as THE IMAGE: SHEETS");
        due("of then, not of now", x.undo(), 32);
        x.set(0, 5);
        due("taken anew", x.image(), 2);
        x.set(0, 100);
        due("the newest one counts", x.undo(), 2);
        due("pages", x.told(0), 5);
        for (int k = 0; k < 4; k++) {
            x.waits(10 * (k / 2) + k % 2);
        }
        x.press(2);
        x.plans();
        for (int k = 0; k < 5; k++) {
            x.see(0, 0, 0, 2);
        }
        for (int k = 0; k < 8; k++) {
            x.event(0, 9);
        }
        x.image();
        x.set(0, 6);
        x.see(-1, 0, 0, 0);
        x.event(-1, 0);
        due("undone", x.undo(), 2);
        due("all are back", 10000 * x.count(0) + 1000 * x.count(1) + 100 * x.count(3) + 10 * x.count(4) + x.count(5), 58225);
        due("a full row of seen is full again", x.see(0, 0, 0, 2), FULL);
        due("a full row of events is full again", x.event(0, 9), FULL);
        due("what waited waits", x.waits(10), STATE);
        due("what was printed is", x.waits(0), STATE);
        x.press(1);
        x.unplan(2);
        due("once more, as it was then", x.undo(), 2);
        due("the press is as it was then", 100 * x.count(3) + 10 * x.count(4) + x.count(5), 225);
    }

    private static void count() {
        CHECK.sentence("31: How many: 0 SEEN .. 5 CELLS of the PLAN. BAD");
        PressSheets x = Jobs.job(1, 128, 0, 0);
        range("count", 0, 5, BAD, x::count);
        for (int k = 0; k < 60; k++) {
            x.see(0, 0, 0, 1);
            x.event(0, 1);
            x.waits(10 * (k / 2) + k % 2);
            x.plan(10 * (k / 4) + k / 2 % 2, 0, k % 2, 1, 0);
        }
        Jobs.feed(x, "n".repeat(101));
        int[] most = {5, 8, 100, 40, 0, 60};
        for (int what = 0; what < most.length; what++) {
            due("full: count " + what, x.count(what), most[what]);
        }
    }

    private static void tape() {
        CHECK.sentence("32: A TAPE becomes a row of n (0 .. 60) of a sort, all 0");
        PressSheets x = new PressSheets();
        for (int sort = BYTES; sort <= BOOLEANS; sort++) {
            due("60", x.tape(5, sort, 60), 1);
            for (int i = 0; i < 60; i += 59) {
                due("item " + i, x.peek(5, i), 0);
                due("put", x.item(5, i, -1), 1);
            }
            due("item 60", x.item(5, 60, 1), PLACE);
            due("anew", x.tape(5, sort, 60), 1);
            due("all 0 again, the first", x.peek(5, 0), 0);
            due("all 0 again, the last", x.peek(5, 59), 0);
            due("0", x.tape(5, sort, 0), 1);
            due("it has no item", x.item(5, 0, 1), PLACE);
            due("shorter and longer again", x.tape(5, sort, 60), 1);
            due("all 0 still", x.peek(5, 59), 0);
        }
        CHECK.sentence("32: or holds nothing (sort -1: n does not matter): 1");
        for (int n : new int[] {LEAST, -1, 0, 60, 61, GREATEST}) {
            x.tape(0, BYTES, 1);
            due("n " + n, x.tape(0, -1, n), 1);
            due("nothing", x.item(0, 0, 1), NOTHING);
        }
        due("nothing already", x.tape(0, -1, 0), 1);
        CHECK.sentence("32: NONE: tape; BAD: sort, n above 60; SIZE");
        x.tape(0, INTS, 3);
        x.item(0, 2, 77);
        due("the greatest tape", x.tape(5, BYTES, 1), 1);
        outside("tape", 0, 5, NONE, tape -> x.tape(tape, BYTES, 1));
        for (int sort : new int[] {LEAST, LEAST + 1, -3, -2, 5, 6, GREATEST}) {
            due("sort " + sort, x.tape(0, sort, 1), BAD);
        }
        for (int n : new int[] {61, 62, 1000, GREATEST}) {
            due("n " + n, x.tape(0, BYTES, n), BAD);
        }
        for (int n : new int[] {-1, -2, -60, LEAST + 1, LEAST}) {
            due("n " + n, x.tape(0, BYTES, n), SIZE);
        }
        due("refused: it is as it was", x.peek(0, 2), 77);
        due("no longer", x.peek(0, 3), NO);
    }

    private static void item() {
        CHECK.sentence("33: Item i of a TAPE becomes v (its lowest bits, as many as an item has");
        long[][] rows = {
            {BYTES, 127, 127}, {BYTES, 128, -128}, {BYTES, 255, -1}, {BYTES, 256, 0}, {BYTES, -129, 127}, {BYTES, NO, 0},
            {SHORTS, 32767, 32767}, {SHORTS, 32768, -32768}, {SHORTS, 65535, -1}, {SHORTS, 65536, 0}, {SHORTS, -32769, 32767},
            {INTS, GREATEST, GREATEST}, {INTS, 2147483648L, LEAST}, {INTS, 4294967295L, -1}, {INTS, 4294967296L, 0},
            {INTS, -2147483649L, GREATEST}, {LONGS, Long.MAX_VALUE, Long.MAX_VALUE}, {LONGS, NO, NO}, {LONGS, -1, -1}};
        PressSheets x = new PressSheets();
        for (long[] row : rows) {
            x.tape(0, (int) row[0], 1);
            due("put", x.item(0, 0, row[1]), 1);
            due("sort " + row[0] + " of " + row[1], x.peek(0, 0), row[2]);
        }
        CHECK.sentence("33: booleans: whether v is not 0): 1");
        x.tape(0, BOOLEANS, 1);
        for (long v : new long[] {1, 2, -1, 256, 1L << 32, NO, Long.MAX_VALUE}) {
            due("put", x.item(0, 0, v), 1);
            due("boolean of " + v, x.peek(0, 0), 1);
            due("put", x.item(0, 0, 0), 1);
            due("boolean of 0", x.peek(0, 0), 0);
        }
        CHECK.sentence("33: NONE; NOTHING; PLACE");
        outside("tape", 0, 5, NONE, tape -> x.item(tape, 0, 1));
        for (int i : new int[] {LEAST, -1, 0, 59, GREATEST}) {
            due("nothing, at " + i, x.item(1, i, 1), NOTHING);
        }
        x.tape(1, LONGS, 60);
        range("place of 60", 0, 59, PLACE, i -> x.item(1, i, 1));
        x.tape(1, LONGS, 1);
        range("place of one", 0, 0, PLACE, i -> x.item(1, i, 1));
        x.tape(1, LONGS, 0);
        outside("place of none", 0, -1, PLACE, i -> x.item(1, i, 1));
    }

    private static void peek() {
        CHECK.sentence("34: Item i of a TAPE. NO: no such TAPE, nothing there, no such place");
        PressSheets x = new PressSheets();
        for (int tape = 0; tape <= 5; tape++) {
            due("nothing there", x.peek(tape, 0), NO);
        }
        x.tape(0, INTS, 60);
        x.tape(5, BYTES, 2);
        x.item(0, 0, LEAST);
        x.item(0, 59, GREATEST);
        due("the first", x.peek(0, 0), LEAST);
        due("the last", x.peek(0, 59), GREATEST);
        due("the greatest tape", x.peek(5, 1), 0);
        outside("tape", 0, 5, NO, tape -> x.peek(tape, 0));
        outside("place of 60", 0, 59, NO, i -> x.peek(0, i));
        outside("place of 2", 0, 1, NO, i -> x.peek(5, i));
        x.tape(5, BYTES, 0);
        due("place 0 of none", x.peek(5, 0), NO);
        x.tape(0, -1, 0);
        due("nothing any more", x.peek(0, 0), NO);
    }

    private static void itemsAre(PressSheets x, int tape, int... want) {
        for (int i = 0; i < want.length; i++) {
            due("tape " + tape + ", item " + i, x.peek(tape, i), want[i]);
        }
        due("tape " + tape + ", its end", x.peek(tape, want.length), NO);
    }

    private static void shift() {
        CHECK.sentence("35: n items of a TAPE from i on come to another one (or the same) from j on, as they all were before: n");
        PressSheets x = new PressSheets();
        Jobs.shorts(x, 0, 1, 2, 3, 4, 5, 6);
        Jobs.shorts(x, 5, 7, 8);
        due("to the end of another one", x.shift(0, 5, 5, 1, 1), 1);
        itemsAre(x, 5, 7, 6);
        due("all of it", x.shift(5, 0, 0, 4, 2), 2);
        itemsAre(x, 0, 1, 2, 3, 4, 7, 6);
        due("the same, one up", x.shift(0, 0, 0, 1, 5), 5);
        itemsAre(x, 0, 1, 1, 2, 3, 4, 7);
        due("the same, two down", x.shift(0, 2, 0, 0, 4), 4);
        itemsAre(x, 0, 2, 3, 4, 7, 4, 7);
        due("the same, in place", x.shift(0, 0, 0, 0, 6), 6);
        itemsAre(x, 0, 2, 3, 4, 7, 4, 7);
        CHECK.sentence("35: PLACE: n, i or j is below 0, or beyond either's end");
        for (int bad : new int[] {-1, -2, LEAST + 1, LEAST}) {
            due("n " + bad, x.shift(0, 0, 5, 0, bad), PLACE);
            due("i " + bad, x.shift(0, bad, 5, 0, 1), PLACE);
            due("j " + bad, x.shift(0, 0, 5, bad, 1), PLACE);
            due("i " + bad + ", none", x.shift(0, bad, 5, 0, 0), PLACE);
            due("j " + bad + ", none", x.shift(0, 0, 5, bad, 0), PLACE);
        }
        due("none from the end to the end", x.shift(0, 6, 5, 2, 0), 0);
        due("none from beyond the end", x.shift(0, 7, 5, 2, 0), PLACE);
        due("none to beyond the end", x.shift(0, 6, 5, 3, 0), PLACE);
        due("the last two", x.shift(0, 4, 5, 0, 2), 2);
        due("one beyond the first's end", x.shift(0, 5, 5, 0, 2), PLACE);
        due("one beyond the other's end", x.shift(0, 0, 5, 1, 2), PLACE);
        due("more than the other has", x.shift(0, 0, 5, 0, 3), PLACE);
        due("more than the first has", x.shift(5, 0, 0, 0, 3), PLACE);
        for (int far : new int[] {GREATEST, GREATEST - 1, 1 << 30}) {
            due("n " + far, x.shift(0, 1, 0, 0, far), PLACE);
            due("i " + far, x.shift(0, far, 0, 0, 2), PLACE);
            due("j " + far, x.shift(0, 0, 0, far, 2), PLACE);
            due("all " + far, x.shift(0, far, 0, far, far), PLACE);
        }
        itemsAre(x, 5, 4, 7);
        x.tape(4, SHORTS, 0);
        due("none of none", x.shift(4, 0, 4, 0, 0), 0);
        due("one of none", x.shift(4, 0, 0, 0, 1), PLACE);
        x.tape(4, BYTES, 60);
        x.tape(3, BYTES, 60);
        x.item(4, 0, 5);
        x.item(4, 59, 6);
        due("60 of 60", x.shift(4, 0, 3, 0, 60), 60);
        due("the first", x.peek(3, 0), 5);
        due("the last", x.peek(3, 59), 6);
        due("59 of 60, one down", x.shift(4, 1, 4, 0, 59), 59);
        due("the last but one", x.peek(4, 58), 6);
        due("60 from place 1", x.shift(4, 1, 3, 0, 60), PLACE);
        due("61", x.shift(4, 0, 3, 0, 61), PLACE);
        x.tape(3, -1, 0);
        CHECK.sentence("35: CAST: of unlike sorts");
        for (int one = BYTES; one <= BOOLEANS; one++) {
            for (int two = BYTES; two <= BOOLEANS; two++) {
                x.tape(1, one, 1);
                x.tape(2, two, 1);
                due("sorts " + one + ", " + two, x.shift(1, 0, 2, 0, 1), one == two ? 1 : CAST);
            }
        }
        CHECK.sentence("35: NONE: tapes; NOTHING");
        outside("from", 0, 5, NONE, tape -> x.shift(tape, 0, 1, 0, 0));
        outside("to", 0, 5, NONE, tape -> x.shift(1, 0, tape, 0, 0));
        due("nothing to take from", x.shift(3, 0, 1, 0, 0), NOTHING);
        due("nothing to come to", x.shift(1, 0, 3, 0, 0), NOTHING);
        due("nothing at all", x.shift(3, 0, 3, 0, 0), NOTHING);
    }
}
