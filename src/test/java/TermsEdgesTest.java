/**
 * The Terms and the Details: each of their sentences that names an edge has a test of its own, headed by its words.
 * The answers are worked out by hand.
 */
public final class TermsEdgesTest {
    private static final int NONE = -1, BAD = -2, STATE = -3, FULL = -4, OVER = -15, NO_MORE = -5;
    private static final int NOTHING = -11, CAST = -12, PLACE = -13, SIZE = -14;
    private static final long NO = Long.MIN_VALUE;
    private static final int BYTES = 0, SHORTS = 1, INTS = 2, LONGS = 3, BOOLEANS = 4;
    private static final Check CHECK = new Check("TermsEdgesTest");

    public static void main(String[] args) {
        foldWords();
        sheetSizes();
        folding();
        theRun();
        jobNumbers();
        sheets();
        gatheredBehind();
        gatheredInside();
        standing();
        seenAsItStands();
        heads();
        formes();
        workAndTurn();
        creep();
        line();
        strokes();
        printedPages();
        emptied();
        emptiedByTexts();
        notEmptied();
        planCells();
        faults();
        causes();
        cells();
        over();
        clauses();
        textFaults();
        textEnds();
        doneClauses();
        asked();
        share();
        seen();
        fits();
        fitsFarAway();
        events();
        tapes();
        judged();
        refusalsOfTheHost();
        images();
        constants();
        calls();
        CHECK.end();
    }

    private static void due(String call, long got, long want) {
        CHECK.due(call, got, want);
    }

    private static PressSheets folded(int fold) {
        return Jobs.job(fold, 4, 0, 0);
    }

    private static PressSheets pages(int fold, int pages) {
        return Jobs.job(fold, pages, 0, 0);
    }

    // ---- 1: folds

    private static void foldWords() {
        CHECK.sentence("A FOLD is a word of 1 to 4 figures (1 at first)");
        PressSheets x = new PressSheets();
        due("at first", x.told(5), 1);
        due("no figure", x.fold(0), BAD);
        due("1 figure", x.fold(4), 1);
        due("2 figures", x.fold(43), 4);
        due("3 figures", x.fold(432), 43);
        due("4 figures", x.fold(4321), 432);
        for (int word : new int[] {11111, 44444, 14321, 43211, 111111, 1111111111, 1444444444}) {
            due("too many: " + word, x.fold(word), BAD);
        }
        due("as it was", x.told(5), 4321);

        CHECK.sentence("1 the left half .., 2 the right half .., 3 the upper half .., 4 the lower half ..");
        x.fold(1111);
        for (int place = 1; place <= 1000; place *= 10) {
            for (int figure : new int[] {0, 5, 6, 7, 8, 9}) {
                // a 0 ahead of all others is no figure at all
                if (place < 1000 || figure != 0) {
                    int word = 1111 + (figure - 1) * place;
                    due("fold " + word, x.fold(word), BAD);
                }
            }
        }
        for (int word : new int[] {-1, -4, -1111, -4321, Jobs.LEAST, Jobs.LEAST + 1, Jobs.GREATEST}) {
            due("fold " + word, x.fold(word), BAD);
        }
        due("as it was", x.told(5), 1111);
        for (int figure = 1; figure <= 4; figure++) {
            x.fold(1111 * figure);
            due("all of " + figure, x.told(5), 1111 * figure);
        }
    }

    private static void sheetSizes() {
        CHECK.sentence("W is 2 to the power of how many 1s and 2s there are in the FOLD (1, if none), H likewise");
        int[][] sizes = {
            {1, 2, 1}, {2, 2, 1}, {3, 1, 2}, {4, 1, 2}, {12, 4, 1}, {34, 1, 4}, {23, 2, 2}, {121, 8, 1}, {444, 1, 8},
            {1333, 2, 8}, {2214, 8, 2}, {1122, 16, 1}, {3434, 1, 16}, {1324, 4, 4}};
        for (int[] size : sizes) {
            PressSheets x = folded(size[0]);
            due("W of " + size[0], x.told(6), size[1]);
            due("H of " + size[0], x.told(7), size[2]);
        }
    }

    /** Row, column, side, head of the first numbers of the run. */
    private static void runBegins(int fold, int[]... want) {
        PressSheets x = folded(fold);
        for (int i = 0; i < want.length; i++) {
            for (int what = 0; what < want[i].length; what++) {
                due("fold " + fold + ": run(" + i + ", " + what + ")", x.run(i, what), want[i][what]);
            }
        }
    }

    private static void folding() {
        CHECK.sentence("Unfolded, all FRONTS are above; row 0 is the uppermost, column 0 the leftmost one");
        runBegins(1, new int[] {0, 0, 1}, new int[] {0, 0, 0}, new int[] {0, 1, 0}, new int[] {0, 1, 1});
        runBegins(2, new int[] {0, 1, 1}, new int[] {0, 1, 0}, new int[] {0, 0, 0}, new int[] {0, 0, 1});
        runBegins(3, new int[] {0, 0, 1}, new int[] {0, 0, 0}, new int[] {1, 0, 0}, new int[] {1, 0, 1});
        runBegins(4, new int[] {1, 0, 1}, new int[] {1, 0, 0}, new int[] {0, 0, 0}, new int[] {0, 0, 1});

        CHECK.sentence("each pile .. is turned over as a whole (its lowest LEAF is uppermost then, each with the other SIDE above)");
        runBegins(11, new int[] {0, 2, 1}, new int[] {0, 2, 0}, new int[] {0, 1, 0}, new int[] {0, 1, 1},
            new int[] {0, 0, 1}, new int[] {0, 0, 0}, new int[] {0, 3, 0}, new int[] {0, 3, 1});
        runBegins(44, new int[] {1, 0, 1}, new int[] {1, 0, 0}, new int[] {2, 0, 0}, new int[] {2, 0, 1},
            new int[] {3, 0, 1}, new int[] {3, 0, 0}, new int[] {0, 0, 0}, new int[] {0, 0, 1});

        CHECK.sentence("by 1, 2 that of the same row, as far from the middle line on the other side; by 3, 4 that of the same column");
        runBegins(13, new int[] {0, 1, 1}, new int[] {0, 1, 0}, new int[] {0, 0, 0}, new int[] {0, 0, 1},
            new int[] {1, 0, 1}, new int[] {1, 0, 0}, new int[] {1, 1, 0}, new int[] {1, 1, 1});
        runBegins(42, new int[] {0, 1, 1}, new int[] {0, 1, 0}, new int[] {1, 1, 0}, new int[] {1, 1, 1},
            new int[] {1, 0, 1}, new int[] {1, 0, 0}, new int[] {0, 0, 0}, new int[] {0, 0, 1});

        CHECK.sentence("A LEAF that was turned over by 3 or 4 an odd number of times stands ON ITS HEAD");
        runBegins(33, new int[] {2, 0, 1, 1}, new int[] {2, 0, 0, 1}, new int[] {1, 0, 0, 0}, new int[] {1, 0, 1, 0},
            new int[] {0, 0, 1, 1}, new int[] {0, 0, 0, 1}, new int[] {3, 0, 0, 0}, new int[] {3, 0, 1, 0});
        PressSheets x = folded(3333);
        for (int i = 0; i < 32; i++) {
            // neighbours hang together by a fold, so one of them stands on its head; row 15 never moves
            due("fold 3333: head of number " + i, x.run(i, 3), (15 - x.run(i, 0)) % 2);
        }
        x = folded(2121);
        for (int i = 0; i < 32; i++) {
            due("fold 2121: head of number " + i, x.run(i, 3), 0);
        }
    }

    private static void theRun() {
        CHECK.sentence("from above LEAF by LEAF, of each first the SIDE above, then the one below: 2 W H SIDES, numbers 0, 1, ..");
        int[] folds = {3, 41, 234, 1324};
        for (int n = 0; n < folds.length; n++) {
            PressSheets x = folded(folds[n]);
            int sides = 4 << n;
            for (int i = 0; i < sides; i += 2) {
                String of = "fold " + folds[n] + ": number " + i + " and the next one, ";
                due(of + "the row", x.run(i, 0), x.run(i + 1, 0));
                due(of + "the column", x.run(i, 1), x.run(i + 1, 1));
                due(of + "the sides", x.run(i, 2) + x.run(i + 1, 2), 1);
            }
            due("fold " + folds[n] + ": the last leaf never moved", x.run(sides - 1, 2), 1);
            for (int i : Jobs.outside(0, sides - 1)) {
                due("fold " + folds[n] + ": run(" + i + ", 2)", x.run(i, 2), NONE);
            }
        }
    }

    // ---- 1: the job

    private static void rangeOf(String sentence, int what, int least, int greatest, int first) {
        CHECK.sentence(sentence);
        PressSheets x = new PressSheets();
        due("at first", x.told(what), first);
        due("the least", x.set(what, least), first);
        due("told", x.told(what), least);
        due("the greatest", x.set(what, greatest), least);
        due("told", x.told(what), greatest);
        for (int v : Jobs.outside(least, greatest)) {
            due("set(" + what + ", " + v + ")", x.set(what, v), BAD);
            due("as it was behind " + v, x.told(what), greatest);
        }
        int[] first5 = {4, 0, 0, 100, 1};
        for (int other = 0; other < 5; other++) {
            due("nothing else becomes another one: " + other, x.told(other), other == what ? greatest : first5[other]);
        }
    }

    private static void jobNumbers() {
        rangeOf("PAGES N (1 .. 128; 4 at first)", 0, 1, 128, 4);
        rangeOf("GATHER (0: SHEETS behind each other, 1: one in the other; 0 at first)", 1, 0, 1, 0);
        rangeOf("TURN (0 sideways, 1 headways; 0 at first)", 2, 0, 1, 0);
        rangeOf("THICK (0 .. 1000000; 100)", 3, 0, 1000000, 100);
        rangeOf("COPIES (1 .. 100000; 1)", 4, 1, 100000, 1);
    }

    private static void sheets() {
        CHECK.sentence("SHEETS: the least number S of which S times 2 W H is N or more");
        int[][] rows = {
            {1, 1, 1}, {1, 4, 1}, {1, 5, 2}, {1, 8, 2}, {1, 9, 3}, {1, 124, 31}, {1, 125, 32}, {1, 128, 32},
            {34, 8, 1}, {34, 9, 2}, {34, 120, 15}, {34, 121, 16}, {34, 128, 16}, {412, 16, 1}, {412, 17, 2}, {412, 113, 8},
            {2222, 1, 1}, {2222, 32, 1}, {2222, 33, 2}, {2222, 96, 3}, {2222, 97, 4}, {2222, 128, 4}};
        for (int[] row : rows) {
            due("fold " + row[0] + ", " + row[1] + " pages", pages(row[0], row[1]).told(8), row[2]);
        }

        CHECK.sentence("PAGES 1 .. S times 2 W H (those above N are EMPTY)");
        int[][] empty = {{1, 1, 3}, {1, 3, 1}, {1, 4, 0}, {1, 5, 3}, {1, 128, 0}, {2222, 1, 31}, {2222, 32, 0}, {2222, 33, 31}};
        for (int[] row : empty) {
            PressSheets x = pages(row[0], row[1]);
            String of = "fold " + row[0] + ", " + row[1] + " pages: ";
            due(of + "how many are empty", x.told(9), row[2]);
            due(of + "the last place", x.stands(row[1] + row[2], 0), x.told(8) - 1);
            due(of + "beyond it", x.stands(row[1] + row[2] + 1, 0), NONE);
        }
    }

    private static void gatheredBehind() {
        CHECK.sentence("By GATHER 0 SHEET k has in THE RUN the PAGES from (k times 2 W H) plus 1 on");
        PressSheets x = pages(1, 10);
        int[] cells = {501, 0, 1, 500};
        for (int page = 1; page <= 12; page++) {
            due("page " + page, x.stands(page, 5), 1000 * ((page - 1) / 4) + cells[(page - 1) % 4]);
        }
        x = pages(3, 128);
        due("the first page of the last sheet", x.stands(125, 5), 31500);
        due("the last page of the last sheet", x.stands(128, 5), 31520);
        due("the last page of the sheet ahead", x.stands(124, 5), 30520);
    }

    private static void gatheredInside() {
        CHECK.sentence("by GATHER 1 on the first half of THE RUN those from (k times W H) plus 1 on");
        PressSheets x = Jobs.job(1, 10, 1, 0);
        int[] first = {501, 0, 1501, 1000, 2501, 2000};
        for (int page = 1; page <= 6; page++) {
            due("page " + page, x.stands(page, 5), first[page - 1]);
        }
        CHECK.sentence("on the other half the last ones: its last SIDE is PAGE S times 2 W H less k times W H, each SIDE ahead one less");
        int[] last = {2001, 2500, 1001, 1500, 1, 500};
        for (int page = 7; page <= 12; page++) {
            // 11 and 12 are empty, and have their places all the same
            due("page " + page, x.stands(page, 5), last[page - 7]);
        }
        due("beyond the last one", x.stands(13, 5), NONE);
        x = Jobs.job(4, 128, 1, 1);
        due("the innermost sheet, first half", x.stands(64, 5), 31020);
        due("the innermost sheet, other half", x.stands(65, 5), 31000);
        due("the outermost sheet, last page", x.stands(128, 5), 520);
        x = Jobs.job(1324, 32, 1, 0);
        PressSheets y = Jobs.job(1324, 32, 0, 0);
        for (int page = 1; page <= 32; page++) {
            due("one sheet is gathered either way, page " + page, x.stands(page, 5), y.stands(page, 5));
        }
    }

    private static void standing() {
        CHECK.sentence("FRONTS are seen as they lie; BACKS by TURN 0 with column W less 1 less theirs");
        PressSheets x = pages(1111, 32);
        due("the last leaf's back, column 15 unseen", x.stands(32, 5), 500);
        due("its front", x.stands(31, 5), 15);
        x = pages(3333, 32);
        due("of one column it is the same", x.stands(32, 5), 800);
        due("its front", x.stands(31, 5), 300);
        CHECK.sentence("by TURN 1 with row H less 1 less theirs");
        x.set(2, 1);
        due("the last leaf's back, row 15 unseen", x.stands(32, 5), 500);
        due("its front", x.stands(31, 5), 300);
        x.fold(1111);
        due("of one row it is the same", x.stands(32, 5), 515);
        due("its front", x.stands(31, 5), 15);
    }

    private static void seenAsItStands() {
        CHECK.sentence("STANDS: a PAGE on a SHEET, a SIDE, a row and a column AS SEEN (each cell of each forme has its page)");
        int[] folds = {2, 43, 334, 1414, 4433};
        for (int fold : folds) {
            for (int ways = 0; ways < 4; ways++) {
                PressSheets x = Jobs.job(fold, 65, ways / 2, ways % 2);
                String of = "fold " + fold + ", gather " + ways / 2 + ", turn " + ways % 2 + ": page ";
                int places = 65 + x.told(9);
                for (int page = 1; page <= places; page += page < 60 ? 7 : 1) {
                    int cell = x.stands(page, 5);
                    int forme = cell / 1000 * 10 + cell / 500 % 2;
                    due(of + page, x.page(forme, cell % 500 / 20, cell % 20), page);
                    due(of + page + " as all in one", cell, cellOf(x, page));
                    due(of + page + " is behind the one behind it", x.stands(x.stands(page, 6), 6), page);
                }
            }
        }
    }

    private static int cellOf(PressSheets x, int page) {
        return 1000 * x.stands(page, 0) + 500 * x.stands(page, 1) + 20 * x.stands(page, 2) + x.stands(page, 3);
    }

    private static void heads() {
        CHECK.sentence("HEAD: 1, if the LEAF stands ON ITS HEAD when folded; of BACKS by TURN 1 the other way about");
        int[][] rows = {{1, 0, 0, 0, 0, 0}, {1, 1, 1, 0, 0, 1}, {4, 0, 1, 1, 0, 0}, {4, 1, 0, 1, 0, 1}};
        for (int[] row : rows) {
            PressSheets x = Jobs.job(row[0], 4, 0, row[1]);
            for (int page = 1; page <= 4; page++) {
                due("fold " + row[0] + ", turn " + row[1] + ", page " + page, x.stands(page, 4), row[page + 1]);
            }
        }
    }

    private static void formes() {
        CHECK.sentence("A FORME: 10 times the SHEET and the SIDE");
        PressSheets x = pages(1, 128);
        due("the first", x.page(0, 0, 0), 2);
        due("the last", x.page(311, 0, 0), 128);
        for (int forme : Jobs.outside(0, 311)) {
            due("page of forme " + forme, x.page(forme, 0, 0), NONE);
            due("forme " + forme + " waits", x.waits(forme), NONE);
            due("plan on forme " + forme, x.plan(forme, 0, 0, 1, 0), NONE);
            due("forme " + forme + " is judged", x.judge(forme, 0, 0), NONE);
        }
        for (int side = 2; side <= 9; side++) {
            due("side " + side, x.page(side, 0, 0), NONE);
            due("side " + side + " of the last sheet", x.waits(310 + side), NONE);
            due("side " + side + " in a plan", x.plan(70 + side, 0, 0, 1, 0), NONE);
            due("side " + side + " judged", x.judge(70 + side, 0, 0), NONE);
        }
    }

    private static void workAndTurn() {
        CHECK.sentence("WORK AND TURN of a SHEET: both FORMES as one: by TURN 0 the BACK (as seen) to the right of the FRONT");
        PressSheets x = pages(2, 8);
        int[] sideways = {7, 6, 5, 8};
        for (int column = 0; column < 4; column++) {
            due("column " + column, x.turned(1, 0, column), sideways[column]);
        }
        for (int column : Jobs.outside(0, 3)) {
            due("column " + column, x.turned(1, 0, column), NONE);
        }
        due("no row below", x.turned(1, 1, 0), NONE);
        due("no row below, on the right", x.turned(1, 1, 3), NONE);
        CHECK.sentence("by TURN 1 below it");
        x.set(2, 1);
        // the back of a single row is mirrored in no way
        int[][] headways = {{7, 6}, {8, 5}};
        for (int row = 0; row < 2; row++) {
            for (int column = 0; column < 2; column++) {
                due("row " + row + ", column " + column, x.turned(1, row, column), headways[row][column]);
            }
        }
        for (int row : Jobs.outside(0, 1)) {
            due("row " + row, x.turned(1, row, 0), NONE);
        }
        due("no column beside", x.turned(1, 0, 2), NONE);
        due("no column beside, below", x.turned(1, 1, 2), NONE);
        for (int turn = 0; turn <= 1; turn++) {
            x = Jobs.job(1, 128, 0, turn);
            for (int sheet = 0; sheet < 32; sheet++) {
                due("front, sheet " + sheet, x.turned(sheet, 0, 0), 4 * sheet + 2);
                due("back, sheet " + sheet, turn == 0 ? x.turned(sheet, 0, 3) : x.turned(sheet, 1, 0), 4 * sheet + 1);
            }
            due("sheet 32", x.turned(32, 0, 0), NONE);
        }
    }

    private static void creepsAre(PressSheets x, int... want) {
        for (int page = 1; page <= want.length; page++) {
            due("creep of page " + page, x.creep(page, 0), want[page - 1]);
        }
        due("beyond the last one", x.creep(want.length + 1, 0), NONE);
    }

    private static void creep() {
        CHECK.sentence("by GATHER 0 of those of its SHEET, 0, 1, .. from the first one on");
        creepsAre(pages(3, 6), 0, 0, 0, 0, 0, 0, 0, 0);
        creepsAre(pages(14, 9), 0, 0, 100, 100, 100, 100, 0, 0, 0, 0, 100, 100, 100, 100, 0, 0);
        CHECK.sentence("by GATHER 1 of all PAGES");
        creepsAre(Jobs.job(3, 6, 1, 0), 0, 0, 100, 100, 100, 100, 0, 0);
        creepsAre(Jobs.job(3, 9, 1, 0), 0, 0, 100, 100, 200, 200, 200, 200, 100, 100, 0, 0);
        CHECK.sentence("number i by 2 (cut), if i is in the first half of them, else what it is for that one as far from their end");
        PressSheets x = pages(4321, 1);
        x.set(3, 1);
        for (int i = 0; i < 16; i++) {
            due("number " + i, x.creep(i + 1, 0), i / 2);
            due("as far from the end", x.creep(32 - i, 0), i / 2);
        }
        CHECK.sentence("CREEP of a PAGE: THICK times how many LEAVES are outside of its own");
        x = pages(11, 8);
        x.set(3, 0);
        due("no thickness", x.creep(4, 0), 0);
        x.set(3, 1000000);
        due("the greatest thickness", x.creep(4, 0), 1000000);
        due("none is outside", x.creep(8, 0), 0);
    }

    // ---- 2: the press

    private static void line() {
        CHECK.sentence("THE PRESS has a line of FORMES that wait (each once at most; 40 at most)");
        PressSheets x = pages(1, 128);
        due("none at first", x.line(0), NO_MORE);
        for (int k = 0; k < 40; k++) {
            due("forme " + k, x.waits(310 - 10 * (k / 2) + k % 2), k + 1);
            due("once at most", x.waits(310 - 10 * (k / 2) + k % 2), STATE);
        }
        due("40 at most", x.waits(0), FULL);
        due("the first of 40 once at most, still", x.waits(310), STATE);
        due("40 wait", x.count(3), 40);
        due("the last one", x.line(39), 121);
        due("none behind", x.line(40), NO_MORE);
        x.clears(31);
        due("there is room again", x.waits(0), 39);
        due("it is the last one", x.line(38), 0);
    }

    private static void strokes() {
        CHECK.sentence("At a STROKE the first one leaves it (that is one STROKE, whatever comes of it)");
        PressSheets x = pages(1, 12);
        x.waits(1);
        x.waits(11);
        x.waits(10);
        x.waits(0);
        due("the first stroke: a back goes to the end", x.press(1), 0);
        due("the next one is first", x.line(0), 11);
        due("two strokes: a back again, then a front", x.press(2), 1);
        due("so one front is printed", x.printed(0), 10);
        due("three wait", x.count(3), 3);
        due("the order", 10000 * x.line(0) + 100 * x.line(1) + x.line(2), 111);
        due("two strokes: a front and its back", x.press(2), 2);

        CHECK.sentence("a BACK whose FRONT isn't PRINTED yet goes to its end, if others wait; all else is PRINTED");
        due("the last one, its front is printed", x.press(1), 1);
        due("in that order", 10000 * x.printed(1) + 100 * x.printed(2) + x.printed(3), 111);
        x.waits(21);
        due("a back alone is printed", x.press(1), 1);
        x.waits(20);
        due("a front behind its back is printed", x.press(1), 1);
        due("the last one that was printed", x.printed(5), 20);

        CHECK.sentence("BACKS whose FRONTS do not come go to the end again and again, as long as another one waits");
        x = pages(1, 12);
        x.waits(1);
        x.waits(11);
        x.waits(21);
        due("99 strokes", x.press(99), 0);
        due("all wait, in order again", 10000 * x.line(0) + 100 * x.line(1) + x.line(2), 11121);
        due("one stroke more", x.press(1), 0);
        due("it went to the end", x.line(2), 1);
        x.clears(1);
        due("two wait: none is printed", x.press(98), 0);
        x.clears(2);
        due("the last one is printed, the other strokes find none", x.press(99), 1);
        due("it is", x.printed(0), 1);
    }

    private static void printedPages() {
        CHECK.sentence("PAGES PRINTED: those (not EMPTY) on PRINTED FORMES");
        PressSheets x = pages(1, 2);
        x.waits(0);
        x.press(1);
        // the front has the pages 2 and 3, of which 3 is empty
        due("one is missing", x.missing(0), 1);
        due("the first", x.missing(1), 1);
        due("the last", x.missing(2), 1);
        x = pages(1, 5);
        x.waits(10);
        x.press(1);
        due("a forme of empty pages alone prints none", x.missing(0), 5);
        due("it is printed all the same", x.count(4), 1);
        x.waits(11);
        due("what waits isn't printed", x.missing(2), 5);
        x.press(1);
        due("page 5 with three empty ones on its sheet", x.missing(2), 4);
    }

    /** A job of fold 1 with a forme printed, one waiting and a cell planned. */
    private static PressSheets busy() {
        PressSheets x = new PressSheets();
        x.waits(0);
        x.press(1);
        x.waits(1);
        x.plan(0, 0, 0, 1, 1);
        return x;
    }

    private static void isEmptied(String by, PressSheets x) {
        due(by + ": none waits", x.count(3), 0);
        due(by + ": nothing is printed", x.count(4), 0);
        due(by + ": all are missing", x.missing(0), x.told(0));
        due(by + ": the plan is empty", x.count(5), 0);
        due(by + ": nothing is planned", x.planned(0, 0), NONE);
        due(by + ": what was printed may wait", x.waits(0), 1);
        due(by + ": a cell may be planned", x.plan(0, 0, 0, 1, 0), 1);
    }

    private static void isKept(String by, PressSheets x) {
        due(by + ": it waits still", x.line(0), 1);
        due(by + ": it is printed still", x.printed(0), 0);
        due(by + ": it is planned still", x.planned(0, 1), 1);
        due(by + ": once each", 100 * x.count(3) + 10 * x.count(4) + x.count(5), 111);
    }

    private static void emptied() {
        CHECK.sentence("THE PRESS is emptied, nothing PRINTED, whenever FOLD, PAGES, GATHER or TURN become another one");
        PressSheets x = busy();
        x.fold(2);
        isEmptied("fold", x);
        x.fold(22);
        isEmptied("one figure more", x);
        int[] others = {3, 1, 1};
        for (int what = 0; what < 3; what++) {
            x = busy();
            x.set(what, others[what]);
            isEmptied("set " + what, x);
        }
        x = busy();
        x.fold(2);
        x.fold(1);
        isEmptied("fold, there and back", x);
        x = busy();
        x.set(0, 128);
        x.set(0, 4);
        isEmptied("pages, there and back", x);
    }

    private static void emptiedByTexts() {
        CHECK.sentence("by a job that is read, too");
        for (String text : new String[] {"f2", "f11", "n3", "g1", "t1", "f1;n5", "c1,1;t1", "n0;g1", "f2;f1", "n5;n4", "g1;g0", "t1;t0"}) {
            PressSheets x = busy();
            Jobs.read(x, text);
            isEmptied(text, x);
        }
        CHECK.sentence("emptied likewise");
        PressSheets x = new PressSheets();
        x.plans();
        due("a full plan", x.count(5), 4);
        Jobs.read(x, "c7,7;w0");
        due("is kept", x.count(5), 4);
        Jobs.read(x, "n3;n4");
        due("is emptied", x.count(5), 0);
        proofIs("nothing is told", x, 1, 1);
        CHECK.sentence("Without it they are done, one behind the other: what waits ahead of another job goes");
        x = busy();
        due("three clauses", Jobs.read(x, "w1;n8;w11"), 2);
        due("the one behind waits", x.line(0), 11);
        due("alone", x.count(3), 1);
    }

    private static void notEmptied() {
        CHECK.sentence("told as they are, not");
        PressSheets x = busy();
        x.fold(1);
        isKept("fold", x);
        for (int what = 0; what < 5; what++) {
            x.set(what, x.told(what));
            isKept("set " + what, x);
        }
        due("a text", Jobs.read(x, "f1;n4;g0;t0;c100,1"), 5);
        isKept("a text", x);
        due("with zeros ahead", Jobs.read(x, "n0000004;g0000000;t00"), 3);
        isKept("with zeros ahead", x);

        CHECK.sentence("(THICK and COPIES are none of FOLD, PAGES, GATHER or TURN)");
        x.set(3, 7);
        x.set(4, 8);
        isKept("set", x);
        Jobs.read(x, "c9,10");
        isKept("a text", x);

        CHECK.sentence("What is answered so changes nothing (of FOLD, PAGES, GATHER, TURN)");
        x.fold(5);
        x.set(0, 129);
        x.set(1, 2);
        x.set(2, -1);
        x.set(5, 1);
        isKept("refused", x);
        due("refused clauses", Jobs.read(x, "n0;n129;g2;t2"), 0);
        isKept("refused clauses", x);
        due("a fault", Jobs.read(x, "f2;n8;"), -16);
        isKept("a fault", x);
    }

    // ---- 2: plans

    private static void planCells() {
        CHECK.sentence("A PLAN by hand: of SHEET, SIDE, row, column (as seen) a PAGE (1 .. N) and a HEAD");
        PressSheets x = pages(34, 9);
        due("the last cell that is seen", x.plan(11, 3, 0, 9, 1), 1);
        for (int page : Jobs.outside(1, 9)) {
            due("page " + page, x.plan(0, 0, 0, page, 0), BAD);
        }
        due("an empty page may not be told", x.plan(11, 3, 0, 10, 0), BAD);
        for (int head : Jobs.outside(0, 1)) {
            due("head " + head, x.plan(0, 0, 0, 1, head), BAD);
        }
        due("one cell", x.count(5), 1);

        CHECK.sentence("60 CELLS at most");
        x = pages(2222, 64);
        for (int k = 0; k < 60; k++) {
            due("cell " + k, x.plan(10 * (k / 32) + k / 16 % 2, 0, k % 16, 64 - k, 1), k + 1);
        }
        due("one more", x.plan(11, 0, 12, 1, 0), FULL);
        due("60", x.count(5), 60);
        due("the last one is as it was", x.planned(59, 0), 1511);
        due("there is no more", x.planned(60, 0), NONE);

        CHECK.sentence("the newest one of a CELL counts, in the place of the older one");
        due("the first cell, by full", x.plan(0, 0, 0, 1, 0), 60);
        due("the last cell, by full", x.plan(11, 0, 11, 2, 0), 60);
        due("the first one's page", x.planned(0, 1), 1);
        due("the first one's head", x.planned(0, 2), 0);
        due("the first one's cell", x.planned(0, 0), 0);
        due("the last one's page", x.planned(59, 1), 2);
        due("the other ones are as they were", 100 * x.planned(1, 1) + x.planned(58, 1), 6306);
    }

    /** Four pages of fold 1 stand on the cells 501, 0, 1, 500, none on its head. */
    private static PressSheets fourPlanned() {
        PressSheets x = new PressSheets();
        x.plan(1, 0, 1, 1, 0);
        x.plan(0, 0, 0, 2, 0);
        x.plan(0, 0, 1, 3, 0);
        x.plan(1, 0, 0, 4, 0);
        return x;
    }

    private static void proofIs(String of, PressSheets x, int... want) {
        for (int k = 0; k < 6; k++) {
            due(of + ": proof(" + k + ")", x.proof(k), k < want.length ? want[k] : NO_MORE);
        }
    }

    private static void faults() {
        CHECK.sentence("0 none");
        PressSheets x = fourPlanned();
        proofIs("as it should be", x, 0);
        x = Jobs.job(1, 3, 0, 0);
        x.plan(0, 0, 1, 3, 0);
        x.plan(0, 0, 0, 2, 0);
        x.plan(1, 0, 1, 1, 0);
        proofIs("an empty page need not be told", x, 0);
        CHECK.sentence("1 it is nowhere");
        proofIs("nothing is told", new PressSheets(), 1, 1);
        x = fourPlanned();
        x.unplan(4);
        proofIs("the last one", x, 1, 4);
        CHECK.sentence("2 it is on two CELLS or more");
        x.plan(1, 0, 0, 3, 0);
        proofIs("two", x, 2, 3, 1, 500);
        x.plan(0, 0, 0, 3, 0);
        x.plan(1, 0, 1, 3, 0);
        x.plan(0, 0, 1, 2, 0);
        proofIs("page 1 is first", x, 1, 1);
        CHECK.sentence("3 it is elsewhere");
        x = fourPlanned();
        x.unplan(1);
        x.unplan(2);
        x.plan(0, 0, 0, 1, 0);
        x.plan(1, 0, 1, 2, 0);
        proofIs("two are exchanged", x, 3, 1, 0, 501);
        CHECK.sentence("4 its HEAD is the other one");
        x = fourPlanned();
        x.plan(1, 0, 0, 4, 1);
        proofIs("the last one", x, 4, 4, 500, 0);
        CHECK.sentence("PAGES by number, for each 1 ahead of 2, 3, 4");
        x = new PressSheets();
        x.plan(1, 0, 1, 1, 1);
        proofIs("page 1 has 4, page 2 is nowhere", x, 4, 1, 501, 0);
        x.plan(0, 0, 0, 1, 1);
        proofIs("page 1 has 2 and 4", x, 2, 1, 501, 0);
        x.plan(1, 0, 1, 4, 1);
        proofIs("page 1 has 3 and 4, page 4 too", x, 3, 1, 0, 501);
    }

    private static void causes() {
        CHECK.sentence("of a FAULT the PAGE, of that (but by 1) the CELL where it is told to be");
        PressSheets x = pages(1, 128);
        proofIs("by 1 there is no cell", x, 1, 1);
        x.plan(311, 0, 1, 1, 0);
        proofIs("by 3 there is", x, 3, 1, 31501, 501);
        CHECK.sentence("(by 2 the first one, by the order in which CELLS came), of that (by 2: the second one ..)");
        x = new PressSheets();
        x.plan(1, 0, 1, 2, 0);
        x.plan(0, 0, 1, 1, 0);
        x.plan(0, 0, 0, 1, 0);
        x.plan(1, 0, 1, 1, 0);
        proofIs("a cell told anew keeps its place", x, 2, 1, 501, 1);
        x.plan(1, 0, 1, 2, 0);
        x.unplan(2);
        x.plan(1, 0, 1, 1, 0);
        proofIs("one that went comes last", x, 2, 1, 1, 0);
        CHECK.sentence("by 3: where it STANDS; by 4: HEAD as it should be");
        x = Jobs.job(4, 4, 0, 1);
        x.plan(0, 0, 0, 1, 0);
        proofIs("headways, a back", x, 3, 1, 0, 500);
        x.unplan(1);
        x.plan(1, 0, 0, 1, 1);
        proofIs("the head of a back by turn 1", x, 4, 1, 500, 0);
        x.plan(1, 0, 0, 1, 0);
        x.plan(0, 1, 0, 2, 0);
        proofIs("the head of a front on its head", x, 4, 2, 20, 1);
    }

    private static void cells() {
        CHECK.sentence("A CELL as a number: 1000 times SHEET, 500 times SIDE, 20 times row, and column, as seen");
        PressSheets x = pages(1, 128);
        due("the greatest sheet", x.stands(125, 5), 31501);
        due("planned", x.plan(311, 0, 1, 1, 0), 1);
        due("as planned", x.planned(0, 0), 31501);
        x = pages(3333, 32);
        x.plan(1, 15, 0, 1, 0);
        due("the greatest row", x.planned(0, 0), 800);
        x = pages(1111, 32);
        x.plan(1, 0, 15, 1, 0);
        due("the greatest column", x.planned(0, 0), 515);
        x = pages(1313, 64);
        x.plan(11, 3, 3, 1, 0);
        due("the last cell of 4 by 4", x.planned(0, 0), 1563);
        due("the least cell", new PressSheets().stands(2, 5), 0);
    }

    private static void over() {
        CHECK.sentence("OVER (-15): what isn't an int's");
        PressSheets x = pages(11, 8);
        x.set(3, 49981);
        x.set(4, 42966);
        due("the greatest product that is one", x.creep(3, 1), 2147483646);
        x.set(3, 32768);
        x.set(4, 65536);
        due("2 to the power of 31", x.creep(3, 1), OVER);
        due("0 times 65536", x.creep(1, 1), 0);
        x.set(3, 65536);
        due("2 to the power of 32, which would wrap to 0", x.creep(3, 1), OVER);
        x.set(3, 98304);
        due("6442450944, which would wrap to a negative one", x.creep(3, 1), OVER);
        x.set(3, 1000000);
        x.set(4, 100000);
        due("the greatest of one leaf", x.creep(3, 1), OVER);
        due("the creep alone", x.creep(3, 0), 1000000);
    }

    // ---- 2: texts

    private static void clauses() {
        CHECK.sentence("A job is read from THE TEXT (bytes, 100 at most)");
        PressSheets x = new PressSheets();
        due("none at first", x.count(2), 0);
        Jobs.feed(x, "n0000007;".repeat(11));
        due("99", x.count(2), 99);
        due("100", x.feed('n'), 100);
        due("101", x.feed('n'), FULL);
        due("100 still", x.count(2), 100);
        due("the eleventh clause is the fault", x.read(), -10 - 89);
        due("a text of 100 that is a job", Jobs.read(x, "c0000001,0000002;".repeat(5) + "c0000003,000004"), 6);
        due("its last clause counts", 10 * x.told(3) + x.told(4), 34);

        CHECK.sentence("CLAUSES, 1 to 10, with ; between");
        due("none", Jobs.read(x, ""), -10);
        due("1", Jobs.read(x, "n7"), 1);
        due("10", Jobs.read(x, "n7;n8;".repeat(4) + "n7;n9"), 10);
        due("all were done", x.told(0), 9);
        due("none between", Jobs.read(x, "n1n2"), -12);
        due("two between", Jobs.read(x, "n1;;n2"), -13);
        due("ahead", Jobs.read(x, ";n1"), -10);
        due("behind", Jobs.read(x, "n1;"), -13);
        due("another sign between", Jobs.read(x, "n1,n2"), -12);

        CHECK.sentence("f FOLD (1 to 4 figures 1 .. 4)");
        due("1 figure", Jobs.read(x, "f4"), 1);
        due("4 figures", Jobs.read(x, "f4321"), 1);
        due("told", x.told(5), 4321);
        due("no figure", Jobs.read(x, "f;n1"), -11);
        due("figure 0", Jobs.read(x, "f0"), -11);
        due("figure 5", Jobs.read(x, "f125"), -13);
        due("a 0 ahead", Jobs.read(x, "f01"), -11);
        due("a fifth figure", Jobs.read(x, "f11111"), -15);

        CHECK.sentence("numbers 1 to 7 digits");
        String[] kinds = {"n", "g", "t", "c", "w", "c1,"};
        for (String kind : kinds) {
            String behind = kind.equals("c") ? ",1" : "";
            int at = kind.length();
            due(kind + " without a digit", Jobs.read(x, kind + behind), -10 - at);
            due(kind + " of one digit", Jobs.read(x, kind + "0" + behind), kind.equals("n") || kind.equals("c1,") ? 0 : 1);
            due(kind + " of 7 digits", Jobs.read(x, kind + "9999999" + behind), 0);
            due(kind + " of 8 digits", Jobs.read(x, kind + "00000001" + behind), -17 - at);
        }
    }

    private static void textFaults() {
        CHECK.sentence("Nothing else stands between (no blanks, either)");
        PressSheets x = new PressSheets();
        String[] texts = {" n1", "n 1", "n1 ", "n1 ;n2", "n1; n2", "c1 ,2", "c1, 2", "n-1", "n+1", "N1", "n1.", "n1\n", "x1", "c1;2", "f 1"};
        int[] places = {0, 1, 2, 2, 3, 2, 3, 1, 1, 0, 2, 2, 0, 2, 1};
        for (int k = 0; k < texts.length; k++) {
            due("'" + texts[k] + "'", Jobs.read(x, texts[k]), -10 - places[k]);
        }
        for (int sign = 0; sign < 128; sign++) {
            x.feed(sign);
            boolean begins = "fngtcw".indexOf(sign) >= 0;
            due("sign " + sign + " alone", x.read(), begins ? -11 : -10);
        }
        x = new PressSheets();
        for (int sign = 0; sign < 128; sign++) {
            Jobs.feed(x, "n");
            x.feed(sign);
            due("n and sign " + sign, x.read(), sign == '0' ? 0 : sign > '0' && sign <= '9' ? 1 : -11);
        }
        CHECK.sentence("THE FAULT OF THE TEXT: the place of the first byte with which none begins so (each byte behind each beginning)");
        String digits = "0123456789", figures = "1234", kinds = "fngtcw";
        String[][] beginnings = {
            {"", kinds}, {"n1;", kinds}, {"f", figures}, {"f1", figures + ";"}, {"f123", figures + ";"}, {"f1234", ";"},
            {"n", digits}, {"n1", digits + ";"}, {"n123456", digits + ";"}, {"n1234567", ";"}, {"g", digits}, {"t", digits},
            {"w", digits}, {"w1234567", ";"}, {"c", digits}, {"c1", digits + ","}, {"c123456", digits + ","}, {"c1234567", ","},
            {"c1,", digits}, {"c1,1", digits + ";"}, {"c1,1234567", ";"}, {"g1", digits + ";"}, {"t1", digits + ";"}};
        for (String[] beginning : beginnings) {
            int at = beginning[0].length();
            for (int sign = 0; sign < 128; sign++) {
                PressSheets one = new PressSheets();
                Jobs.feed(one, beginning[0]);
                one.feed(sign);
                boolean isFaultThere = one.read() == -10 - at;
                CHECK.holds("'" + beginning[0] + "' and sign " + sign, isFaultThere != (beginning[1].indexOf(sign) >= 0));
            }
        }
        CHECK.sentence("the first byte");
        x = new PressSheets();
        due("the first of two", Jobs.read(x, "n1x;y"), -12);
        due("behind nine clauses", Jobs.read(x, "n1;".repeat(9) + "z"), -37);
        due("the last place there is", Jobs.read(x, "c0000001,0000002;".repeat(5) + "n0000001;" + "n1234x"), -10 - 99);
    }

    private static void textEnds() {
        CHECK.sentence("(the end of THE TEXT, if it ends too early)");
        PressSheets x = new PressSheets();
        for (String text : new String[] {"", "n", "f", "g", "t", "w", "c", "c5", "c5,", "n1;", "n1;c1234567", "f1111;"}) {
            due("'" + text + "'", Jobs.read(x, text), -10 - text.length());
        }
        due("the end of 100 bytes", Jobs.read(x, "c0000001,0000002;".repeat(5) + "c00,1;c00,1;w0;"), -110);

        CHECK.sentence("An eleventh CLAUSE is a FAULT at the ; ahead of it");
        due("eleven", Jobs.read(x, "n1;".repeat(10) + "n1"), -39);
        due("the ; alone", Jobs.read(x, "n1;".repeat(10)), -39);
        due("a wrong one", Jobs.read(x, "t0;".repeat(10) + "x"), -39);
        due("none was done", x.told(0), 4);

        CHECK.sentence("Numbers of a TEXT can begin with 0; the eighth digit is a FAULT");
        due("zeros ahead", Jobs.read(x, "n0000012;g0000001;c0000000,0000003"), 3);
        due("told", 100 * x.told(0) + 10 * x.told(1) + x.told(4), 1213);
        due("eight zeros", Jobs.read(x, "n00000000"), -18);
        due("an eighth digit behind the comma", Jobs.read(x, "c1234567,12345678"), -26);
    }

    private static void doneClauses() {
        CHECK.sentence("Without it they are done, one behind the other");
        PressSheets x = new PressSheets();
        due("the second one has a sheet more", Jobs.read(x, "w10;n8;w10;n8;w11"), 4);
        due("in order", 100 * x.line(0) + x.line(1), 1011);
        due("with a fault none is done", Jobs.read(x, "n3;c7,7;f1111;x"), -10 - 14);
        due("none", 1000 * x.told(0) + x.told(3) + x.told(5), 8101);

        CHECK.sentence("those that would be refused aren't (c as a whole)");
        due("none of these", Jobs.read(x, "n0;n129;g2;t2;w20;w2;w10;c1000001,1;c5,0;c5,100001"), 0);
        due("thick is as it was", x.told(3), 100);
        due("copies are as they were", x.told(4), 1);
        due("two wait", x.count(3), 2);
        due("the greatest c", Jobs.read(x, "c1000000,100000;c0,1;c0,0"), 2);
        due("the last that may be", 10 * x.told(3) + x.told(4), 1);
        x.press(99);
        due("a printed forme is refused", Jobs.read(x, "w10;w0"), 1);
        x = pages(1, 128);
        for (int k = 0; k < 39; k++) {
            x.waits(10 * (k / 2) + k % 2);
        }
        due("room for one", Jobs.read(x, "w300;w301;w310"), 1);
        due("40 wait", x.count(3), 40);

        CHECK.sentence("A CLAUSE by which nothing becomes another one is done, too");
        due("done", Jobs.read(x, "f1;n128;g0;t0;c100,1"), 5);
        due("40 wait still", x.count(3), 40);
        CHECK.sentence("one with a number that may not be is refused when it is done");
        due("it is no fault", Jobs.read(x, "n9999999;g2;t0000007;w312;n127"), 1);
        due("so the others are done", x.told(0), 127);
    }

    // ---- 3

    private static void asked() {
        CHECK.sentence("All that follows is asked, and changes nothing");
        PressSheets x = busy();
        x.see(1, 0, 0, 1);
        x.event(3, 3);
        x.event(0, 9);
        x.event(1, 1);
        x.event(2, 1);
        Jobs.shorts(x, 0, 2, 3);
        due("share", x.share(4, 1), 1);
        due("fits", x.fits(1), 2);
        due("judge", x.judge(0, 0, 0), NO_MORE);
        due("after", x.after(0), 2);
        due("after", x.after(1), 521);
        due("after", x.after(2), 7);
        isKept("asked", x);
        int[] told = {4, 0, 0, 100, 1, 1, 2, 1, 1, 0};
        for (int what = 0; what < told.length; what++) {
            due("told(" + what + ")", x.told(what), told[what]);
        }
    }

    private static void shareIs(PressSheets x, int page, long above, long below) {
        due("share(" + page + ", 0)", x.share(page, 0), above);
        due("share(" + page + ", 1)", x.share(page, 1), below);
    }

    private static void share() {
        CHECK.sentence("its CREEP over the greatest of all PAGES' (not EMPTY): a fraction in lowest terms");
        PressSheets x = Jobs.job(1, 26, 1, 0);
        // seven sheets in each other: up to 6 leaves outside
        int[][] want = {{1, 0, 1}, {2, 0, 1}, {3, 1, 6}, {5, 1, 3}, {7, 1, 2}, {9, 2, 3}, {11, 5, 6}, {13, 1, 1}, {14, 1, 1}, {18, 5, 6}};
        for (int[] row : want) {
            shareIs(x, row[0], row[1], row[2]);
        }
        shareIs(x, 28, 0, 1);
        x.set(3, 1000000);
        shareIs(x, 9, 2, 3);
        x.set(3, 1);
        for (int[] row : want) {
            shareIs(x, row[0], row[1], row[2]);
        }
        CHECK.sentence("(0 over 1, if that is 0)");
        x.set(3, 0);
        shareIs(x, 13, 0, 1);
        x = pages(4, 4);
        shareIs(x, 3, 0, 1);
        x = pages(1111, 2);
        shareIs(x, 2, 0, 1);
        shareIs(x, 16, 0, 1);
        CHECK.sentence("SHARE of an EMPTY PAGE may be above 1");
        x = pages(1111, 3);
        shareIs(x, 3, 1, 1);
        shareIs(x, 16, 7, 1);
        shareIs(x, 17, 7, 1);
        shareIs(x, 30, 1, 1);
        shareIs(x, 32, 0, 1);
    }

    private static void seen() {
        CHECK.sentence("SEEN told by hand: a SHEET, SIDE, row, column as seen, a PAGE (5 rows at most)");
        PressSheets x = new PressSheets();
        for (int k = 1; k <= 5; k++) {
            due("row " + k, x.see(310 + k % 2, 15, 15, 128), k);
        }
        due("one more", x.see(0, 0, 0, 1), FULL);
        due("five", x.count(0), 5);
        due("none then", x.see(-1, 0, 0, 0), 0);
        due("none", x.count(0), 0);
        due("none once more", x.see(-1, 0, 0, 0), 0);
        due("room again", x.see(0, 0, 0, 1), 1);
    }

    private static void fits() {
        CHECK.sentence("how many FOLDS of as many figures as there are now there are by which all of SEEN STAND so");
        int[] folds = {2, 34, 421, 1432};
        int[] least = {1, 11, 111, 1111};
        for (int n = 0; n < 4; n++) {
            PressSheets x = folded(folds[n]);
            due("nothing is seen: all of " + (n + 1) + " figures", x.fits(0), 4 << 2 * n);
            due("the least of them", x.fits(1), least[n]);
        }
        PressSheets x = folded(4);
        x.see(1, 0, 0, 1);
        due("page 1 on 500: by 2 and 3", 10 * x.fits(0) + x.fits(1), 22);
        x.see(1, 0, 0, 1);
        due("told twice", 10 * x.fits(0) + x.fits(1), 22);
        x.see(0, 1, 0, 3);
        due("page 3 on 20, too: by 3", 10 * x.fits(0) + x.fits(1), 13);
        x.see(0, 1, 0, 2);
        due("two pages on one cell", x.fits(0), 0);
        due("none is the least", x.fits(1), NO_MORE);

        CHECK.sentence("(EMPTY ones, too; a CELL or SHEET that isn't there: not so)");
        x = pages(4, 1);
        x.see(1, 0, 0, 4);
        due("an empty page on 500: by 1 and 4", 10 * x.fits(0) + x.fits(1), 21);
        x.see(-1, 0, 0, 0);
        x.see(0, 0, 0, 5);
        due("a page that has no place", x.fits(0), 0);
        x.see(-1, 0, 0, 0);
        x.see(10, 0, 0, 2);
        due("a sheet that isn't there", x.fits(0), 0);
        x.see(-1, 0, 0, 0);
        x.see(311, 15, 15, 128);
        due("a far one", x.fits(0), 0);
        x.see(-1, 0, 0, 0);
        x.see(0, 0, 1, 2);
        due("a column that is there by 2 alone of those", 10 * x.fits(0) + x.fits(1), 12);
        x.see(-1, 0, 0, 0);
        x.see(0, 1, 0, 2);
        due("a row that is there by 4 alone of those", 10 * x.fits(0) + x.fits(1), 14);

        CHECK.sentence("the least as a number");
        x = folded(44);
        // the two last pages are on the leaf that never moves: by 2 and 4 alone it is the one on row 0, column 0
        x.see(0, 0, 0, 7);
        due("22, 24, 42, 44", 100 * x.fits(0) + x.fits(1), 422);
        x.see(1, 0, 1, 8);
        due("its back on column 1 of two: 24, 42", 100 * x.fits(0) + x.fits(1), 224);
        x = folded(4321);
        x.see(0, 0, 0, 31);
        due("of four figures", x.fits(0), 16);
        due("the least", x.fits(1), 2222);
        x.see(1, 0, 1, 32);
        due("one 2 and three 4s", x.fits(0), 4);
        due("the least", x.fits(1), 2444);
    }

    private static void fitsFarAway() {
        CHECK.sentence("by which all of SEEN STAND so: on the greatest SHEET, row and column, too");
        PressSheets x = pages(1, 128);
        int[][] last = {{125, 311, 0, 1}, {126, 310, 0, 0}, {127, 310, 0, 1}, {128, 311, 0, 0}, {65, 161, 0, 1}};
        for (int k = 0; k < 5; k++) {
            due("row " + k, x.see(last[k][1], last[k][2], last[k][3], last[k][0]), k + 1);
            due("seen rows: " + (k + 1), x.fits(0) > 0 ? 1 : 0, 1);
        }
        due("by 1 alone", 10 * x.fits(0) + x.fits(1), 11);
        x.see(-1, 0, 0, 0);
        for (int sheet = 0; sheet < 32; sheet++) {
            x.see(-1, 0, 0, 0);
            x.see(10 * sheet, 0, 1, 4 * sheet + 3);
            x.see(10 * sheet + 1, 0, 0, 4 * sheet + 4);
            due("sheet " + sheet + ": by 1 alone", 10 * x.fits(0) + x.fits(1), 11);
            x.see(10 * sheet, 0, 1, 4 * sheet + 2);
            due("and another page there: none", x.fits(0), 0);
        }
        int[] folds = {3333, 1111, 1331, 4224};
        for (int fold : folds) {
            x = Jobs.job(fold, 128, 0, 0);
            for (int page = 97; page <= 128; page++) {
                if (page % 5 == 2) {
                    x.see(-1, 0, 0, 0);
                }
                x.see(10 * x.stands(page, 0) + x.stands(page, 1), x.stands(page, 2), x.stands(page, 3), page);
                due("fold " + fold + ", page " + page + " is seen as it stands", x.fits(0) > 0 ? 1 : 0, 1);
            }
        }
    }

    private static void events() {
        CHECK.sentence("what happens (0 PAGES are n; 1 GATHER is n; 2 TURN is n; 3 the FOLD has one more figure n ..; 8 rows at most)");
        PressSheets x = new PressSheets();
        int[][] ranges = {{1, 128}, {0, 1}, {0, 1}, {1, 4}};
        for (int what = 0; what < 4; what++) {
            for (int n : Jobs.outside(ranges[what][0], ranges[what][1])) {
                due("event(" + what + ", " + n + ")", x.event(what, n), BAD);
            }
            due("the least", x.event(what, ranges[what][0]), 2 * what + 1);
            due("the greatest", x.event(what, ranges[what][1]), 2 * what + 2);
        }
        due("one more", x.event(2, 1), FULL);
        due("eight", x.count(1), 8);

        CHECK.sentence("if it has fewer than 4");
        x = folded(1);
        for (int k = 0; k < 3; k++) {
            x.event(3, 3);
            due("empty with figure " + (k + 2), x.after(2), (8 << k) - 4);
        }
        x.event(3, 1);
        due("a fifth figure does nothing", x.after(2), 28);
        due("page 1, as by 1333", x.after(1), folded(1333).stands(1, 5));
        x.fold(4444);
        due("four figures already", x.after(1), folded(4444).stands(1, 5));

        CHECK.sentence("AFTER, behind all of it: SHEETS; where PAGE 1 STANDS (a CELL); how many are EMPTY");
        x = pages(3, 7);
        due("no event: sheets", x.after(0), 2);
        due("no event: page 1", x.after(1), 500);
        due("no event: empty", x.after(2), 1);
        x.event(0, 128);
        due("the greatest number of sheets", x.after(0), 32);
        x.event(2, 1);
        due("headways", x.after(1), 520);
        x.event(2, 0);
        x.event(0, 1);
        due("the last one of a kind counts", 1000 * x.after(0) + x.after(1) + x.after(2), 1503);
        x.event(-1, 0);
        x.event(0, 9);
        due("behind none a new one, with its own number", 10 * x.after(0) + x.after(2), 33);
        for (int k = 1; k < 8; k++) {
            x.event(0, 9 + 4 * k);
            due("row " + k + " counts", x.after(0), 3 + k);
        }
    }

    private static void tapes() {
        CHECK.sentence("TAPES 0 .. 5 hold nothing (at first)");
        PressSheets x = new PressSheets();
        for (int tape = 0; tape <= 5; tape++) {
            due("tape " + tape, x.item(tape, 0, 1), NOTHING);
            due("tape " + tape, x.peek(tape, 0), NO);
            due("tape " + tape, x.judge(0, tape, 0), 100);
        }
        for (int tape : Jobs.outside(0, 5)) {
            due("tape " + tape, x.tape(tape, BYTES, 1), NONE);
            due("item of " + tape, x.item(tape, 0, 1), NONE);
            due("peek of " + tape, x.peek(tape, 0), NO);
            due("shift from " + tape, x.shift(tape, 0, 0, 0, 0), NONE);
            due("shift to " + tape, x.shift(0, 0, tape, 0, 0), NONE);
            due("judge " + tape, x.judge(0, tape, 0), NONE);
        }
        CHECK.sentence("or a row of 0 bytes, 1 shorts, 2 ints, 3 longs, 4 booleans (items 0, 1)");
        long[][] edges = {{-128, 127}, {-32768, 32767}, {Jobs.LEAST, Jobs.GREATEST}, {NO, Long.MAX_VALUE}};
        for (int sort = BYTES; sort <= LONGS; sort++) {
            x.tape(sort, sort, 4);
            x.item(sort, 0, edges[sort][0]);
            x.item(sort, 1, edges[sort][1]);
            x.item(sort, 2, edges[sort][0] - 1);
            x.item(sort, 3, edges[sort][1] + 1);
            for (int i = 0; i < 4; i++) {
                // one beyond an end comes in again at the other
                due("sort " + sort + ", item " + i, x.peek(sort, i), edges[sort][i == 0 || i == 3 ? 0 : 1]);
            }
        }
        x.tape(5, BOOLEANS, 4);
        long[] truths = {0, 2, -1, 1L << 63};
        for (int i = 0; i < 4; i++) {
            x.item(5, i, truths[i]);
            due("boolean of " + truths[i], x.peek(5, i), i == 0 ? 0 : 1);
        }
    }

    private static void judged() {
        CHECK.sentence("PAGES of a FORME as seen, told by a row of shorts, from a place on, row by row (EMPTY: 0), are JUDGED");
        PressSheets x = pages(13, 5);
        Jobs.shorts(x, 0, 0, 3, 2, 0, 0, 1, 4, 0, 5);
        due("the front from place 1", x.judge(0, 0, 1), NO_MORE);
        due("the back from place 5, to the very end", x.judge(1, 0, 5), NO_MORE);
        CHECK.sentence("the first that is otherwise; -5: none");
        int[] right = {3, 2, 0, 0};
        for (int k = 0; k < 4; k++) {
            Jobs.shorts(x, 1, right);
            x.item(1, k, 8);
            due("number " + k, x.judge(0, 1, 0), k);
            x.item(1, 3, 8);
            due("the first of two", x.judge(0, 1, 0), k);
        }
        Jobs.shorts(x, 1, 3, 2, 6, 7);
        due("an empty page by its number is otherwise", x.judge(0, 1, 0), 2);
        Jobs.shorts(x, 1, -3, 2, 0, 0);
        due("a negative one", x.judge(0, 1, 0), 0);
        CHECK.sentence("100 and how many were looked at, if the row ends ahead of that");
        for (int n = 0; n < 4; n++) {
            int[] some = new int[n];
            System.arraycopy(right, 0, some, 0, n);
            Jobs.shorts(x, 2, some);
            due("a row of " + n, x.judge(0, 2, 0), 100 + n);
        }
        due("from the last place", x.judge(1, 0, 8), 0);
        Jobs.shorts(x, 2, 9, 9, 3, 2);
        due("two of four", x.judge(0, 2, 2), 102);
        for (int i : new int[] {4, 5, 60, Jobs.GREATEST - 3, Jobs.GREATEST}) {
            due("from place " + i, x.judge(0, 2, i), 100);
        }
        CHECK.sentence("(or the place is below 0, or the TAPE holds nothing)");
        for (int i : new int[] {-1, -2, Jobs.LEAST, Jobs.LEAST + 1}) {
            due("place " + i, x.judge(0, 0, i), 100);
        }
        due("nothing", x.judge(0, 4, 0), 100);
        due("nothing, below 0", x.judge(0, 4, -1), 100);
        x = Jobs.job(1, 128, 1, 0);
        for (int sheet = 0; sheet < 32; sheet++) {
            Jobs.shorts(x, 0, 2 * sheet + 2, 127 - 2 * sheet, 128 - 2 * sheet, 2 * sheet + 1);
            due("front of sheet " + sheet, x.judge(10 * sheet, 0, 0), NO_MORE);
            due("back of sheet " + sheet, x.judge(10 * sheet + 1, 0, 2), NO_MORE);
            due("no forme " + sheet + "2", x.judge(10 * sheet + 2, 0, 0), NONE);
        }
        x = pages(4141, 32);
        x.tape(0, SHORTS, 60);
        for (int k = 0; k < 16; k++) {
            x.item(0, 44 + k, x.page(0, k / 4, k % 4));
        }
        due("16 pages at the end of 60", x.judge(0, 0, 44), NO_MORE);
        due("one beyond", x.judge(0, 0, 45), 0);
    }

    private static void refusalsOfTheHost() {
        PressSheets x = new PressSheets();
        x.tape(0, INTS, 2);
        x.tape(1, LONGS, 2);
        CHECK.sentence("NOTHING (-11): nothing is there");
        due("item", x.item(5, 0, 0), -11);
        due("shift", x.shift(0, 0, 5, 0, 0), -11);
        CHECK.sentence("CAST (-12): another sort");
        due("shift", x.shift(0, 0, 1, 0, 0), -12);
        due("judge", x.judge(0, 1, 0), -12);
        CHECK.sentence("PLACE (-13): no such place");
        due("item", x.item(0, 2, 0), -13);
        due("shift", x.shift(0, 0, 0, 1, 2), -13);
        CHECK.sentence("SIZE (-14): a size below 0");
        due("tape", x.tape(0, INTS, -1), -14);
        due("it is as it was", x.peek(0, 1), 0);
    }

    private static void images() {
        CHECK.sentence("THE IMAGE stays behind undo()");
        PressSheets x = pages(1, 9);
        due("none at first", x.undo(), STATE);
        due("taken", x.image(), 3);
        for (int time = 0; time < 3; time++) {
            x.set(0, 1 + time);
            due("undone", x.undo(), 3);
            due("pages", x.told(0), 9);
        }
        CHECK.sentence("THE IMAGE: FOLD, JOB, THE PRESS, the PLAN, SEEN, EVENTS");
        int[][] jobs = {{314, 17, 1, 0, 0, 100000}, {2, 2, 0, 1, 1000000, 1}};
        for (int one = 0; one < 2; one++) {
            PressSheets y = imaged(jobs[one]);
            other(y, jobs[1 - one]);
            due("undone", y.undo(), y.told(8));
            isImaged(y, jobs[one]);
            other(y, jobs[1 - one]);
            due("once more", y.undo(), y.told(8));
            isImaged(y, jobs[one]);
        }
        CHECK.sentence("(and nothing else is in THE IMAGE)");
        x.feed('n');
        x.tape(0, BYTES, 1);
        x.image();
        x.feed('6');
        x.item(0, 0, 5);
        x.undo();
        due("the text is as it was", x.count(2), 2);
        due("the tapes are as they were", x.peek(0, 0), 5);
        due("what is read counts", x.read(), 1);
        due("six pages", x.told(0), 6);
    }

    /** A job (fold, then the numbers of set) with a forme printed, one waiting, a cell planned, a row of seen and of events. */
    private static PressSheets imaged(int[] job) {
        PressSheets x = new PressSheets();
        for (int what = 0; what < 5; what++) {
            x.set(what, job[what + 1]);
        }
        x.fold(job[0]);
        x.waits(1);
        x.press(1);
        x.waits(0);
        x.plan(1, 0, 0, 2, 1);
        x.see(x.stands(1, 1), x.stands(1, 2), x.stands(1, 3), 1);
        x.event(0, 33);
        x.image();
        return x;
    }

    private static void other(PressSheets x, int[] job) {
        x.fold(job[0]);
        for (int what = 0; what < 5; what++) {
            x.set(what, job[what + 1]);
        }
        x.waits(0);
        x.press(1);
        x.plan(0, 0, 0, 1, 0);
        x.plan(0, 0, 1, 1, 0);
        x.see(-1, 0, 0, 0);
        x.see(0, 0, 0, 128);
        x.see(0, 0, 0, 127);
        x.event(-1, 0);
        x.event(0, 3);
        x.event(0, 1);
    }

    private static void isImaged(PressSheets x, int[] job) {
        due("fold", x.told(5), job[0]);
        for (int what = 0; what < 5; what++) {
            due("told(" + what + ")", x.told(what), job[what + 1]);
        }
        due("the line", x.line(0), 0);
        due("what is printed", x.printed(0), 1);
        due("the plan", 10000 * x.planned(0, 0) + 10 * x.planned(0, 1) + x.planned(0, 2), 5000021);
        due("one of each", 10000 * x.count(0) + 1000 * x.count(1) + 100 * x.count(3) + 10 * x.count(4) + x.count(5), 11111);
        due("seen, which fits", x.fits(0) > 0 ? 1 : 0, 1);
        due("the events", x.after(2), (33 + x.told(6) * x.told(7) * 2 - 1) / (x.told(6) * x.told(7) * 2) * x.told(6) * x.told(7) * 2 - 33);
    }

    private static void constants() {
        CHECK.sentence("NONE (-1) ..; BAD (-2) ..; STATE (-3) ..; FULL (-4); OVER (-15); NO = Long.MIN_VALUE");
        due("NONE", PressSheets.NONE, -1);
        due("BAD", PressSheets.BAD, -2);
        due("STATE", PressSheets.STATE, -3);
        due("FULL", PressSheets.FULL, -4);
        due("OVER", PressSheets.OVER, -15);
        due("NO", PressSheets.NO, Long.MIN_VALUE);
    }

    private static void calls() {
        CHECK.sentence("An object is used for at most 512 calls after it has been made");
        PressSheets x = pages(1, 128);
        for (int call = 5; call < 511; call += 2) {
            due("call " + call, x.set(0, 127 + call / 2 % 2), 128 - call / 2 % 2);
            due("the next one", x.image(), 32);
        }
        due("call 511", x.told(8), 32);
        due("call 512", x.undo(), 32);
    }
}
