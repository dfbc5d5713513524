/** Promise by promise: ordinary calls, the edges that the document names, wrong calls. The answers are worked out by hand. */
public final class PromisesTest {
    private static final int NONE = -1, BAD = -2, STATE = -3, FULL = -4, OVER = -15, NO_MORE = -5;
    private static final int NOTHING = -11, CAST = -12, PLACE = -13, SIZE = -14;
    private static final long NO = Long.MIN_VALUE;
    private static final int BYTES = 0, SHORTS = 1, INTS = 2, LONGS = 3, BOOLEANS = 4;
    private static final int LEAST = Integer.MIN_VALUE, GREATEST = Integer.MAX_VALUE;
    private static final Check CHECK = new Check("PromisesTest");

    public static void main(String[] args) {
        promise1NewObject();
        promise2Fold();
        promise3Set();
        promise4Told();
        promise5Run();
        promise6Stands();
        promise7Page();
        promise8Turned();
        promise9Creep();
        promise10Share();
        promise11Waits();
        promise12Press();
        promise13Clears();
        promise14Line();
        promise15Missing();
        promise16Printed();
        promise17Plan();
        promise18Unplan();
        promise19Planned();
        promise20Plans();
        promise21Proof();
        promise22See();
        promise23Fits();
        promise24Event();
        promise25After();
        promise26Feed();
        promise27Read();
        promise27Faults();
        promise28Judge();
        promise29Image();
        promise30Undo();
        promise31Count();
        promise32Tape();
        promise33Item();
        promise34Peek();
        promise35Shift();
        CHECK.end();
    }

    private static void due(String call, long got, long want) {
        CHECK.due(call, got, want);
    }

    private static void promise1NewObject() {
        PressSheets x = new PressSheets();
        int[] told = {4, 0, 0, 100, 1, 1, 2, 1, 1, 0};
        for (int what = 0; what < told.length; what++) {
            due("1: told(" + what + ")", x.told(what), told[what]);
        }
        for (int what = 0; what <= 5; what++) {
            due("1: count(" + what + ")", x.count(what), 0);
        }
        for (int tape = 0; tape <= 5; tape++) {
            due("1: peek(" + tape + ", 0)", x.peek(tape, 0), NO);
        }
        due("1: undo", x.undo(), STATE);
    }

    private static void promise2Fold() {
        PressSheets x = new PressSheets();
        due("2: fold(4321)", x.fold(4321), 1);
        due("2: fold(2)", x.fold(2), 4321);
        due("2: fold(2) again", x.fold(2), 2);
        for (int bad : new int[] {0, -1, 5, 10, 15, 51, 105, 1051, 11115, 11111, 44441, LEAST, GREATEST}) {
            due("2: fold(" + bad + ")", x.fold(bad), BAD);
            due("2: the fold behind " + bad, x.told(5), 2);
        }
        x.waits(0);
        x.plan(0, 0, 0, 1, 0);
        x.see(0, 0, 0, 1);
        x.event(0, 9);
        x.fold(2);
        due("2: told as it is: the press stays", x.count(3), 1);
        due("2: told as it is: the plan stays", x.count(5), 1);
        x.fold(5);
        due("2: refused: the press stays", x.count(3), 1);
        x.press(1);
        x.waits(1);
        x.fold(1);
        due("2: another one: the line is empty", x.count(3), 0);
        due("2: another one: nothing is printed", x.count(4), 0);
        due("2: another one: the plan is empty", x.count(5), 0);
        due("2: another one: seen stays", x.count(0), 1);
        due("2: another one: events stay", x.count(1), 1);
    }

    private static void promise3Set() {
        int[][] allowed = {{1, 128, 4}, {0, 1, 0}, {0, 1, 0}, {0, 1000000, 100}, {1, 100000, 1}};
        for (int what = 0; what < allowed.length; what++) {
            int least = allowed[what][0], greatest = allowed[what][1], first = allowed[what][2];
            PressSheets x = new PressSheets();
            due("3: set(" + what + ", least)", x.set(what, least), first);
            due("3: set(" + what + ", greatest)", x.set(what, greatest), least);
            for (int bad : new int[] {least - 1, greatest + 1, LEAST, GREATEST}) {
                due("3: set(" + what + ", " + bad + ")", x.set(what, bad), BAD);
            }
            due("3: told(" + what + ")", x.told(what), greatest);
        }
        PressSheets x = new PressSheets();
        for (int what : new int[] {-1, 5, LEAST, GREATEST}) {
            due("3: set(" + what + ", 1)", x.set(what, 1), NONE);
        }
        for (int what = 0; what <= 4; what++) {
            x = new PressSheets();
            x.waits(0);
            x.waits(1);
            x.press(1);
            x.plan(0, 0, 0, 1, 0);
            x.set(what, x.told(what));
            due("3: as it is: the press stays " + what, x.count(3) + 10 * x.count(4) + 100 * x.count(5), 111);
            x.set(what, 999999999);
            due("3: refused: the press stays " + what, x.count(3) + 10 * x.count(4) + 100 * x.count(5), 111);
            x.set(what, x.told(what) == 0 ? 1 : x.told(what) + 1);
            due("3: another: the press " + what, x.count(3) + 10 * x.count(4) + 100 * x.count(5), what <= 2 ? 0 : 111);
        }
    }

    private static void promise4Told() {
        PressSheets x = Jobs.job(314, 17, 1, 1);
        x.set(3, 7);
        x.set(4, 9);
        int[] told = {17, 1, 1, 7, 9, 314, 2, 4, 2, 15};
        for (int what = 0; what < told.length; what++) {
            due("4: told(" + what + ")", x.told(what), told[what]);
        }
        for (int what : new int[] {-1, 10, LEAST, GREATEST}) {
            due("4: told(" + what + ")", x.told(what), NONE);
        }
        x.set(0, 16);
        due("4: sheets of 16 pages", x.told(8), 1);
        due("4: none is empty", x.told(9), 0);
        x.fold(3);
        due("4: W of 3", x.told(6), 1);
        due("4: H of 3", x.told(7), 2);
        x.set(0, 128);
        due("4: sheets of 128 pages", x.told(8), 32);
        x.fold(2221);
        due("4: W of 2221", x.told(6), 16);
        due("4: H of 2221", x.told(7), 1);
    }

    private static void runIs(int fold, int[][] want) {
        PressSheets x = new PressSheets();
        x.fold(fold);
        for (int i = 0; i < want.length; i++) {
            for (int what = 0; what <= 3; what++) {
                due("5: fold " + fold + " run(" + i + ", " + what + ")", x.run(i, what), want[i][what]);
            }
        }
        due("5: fold " + fold + " run behind the end", x.run(want.length, 0), NONE);
    }

    private static void promise5Run() {
        runIs(2, new int[][] {{0, 1, 1, 0}, {0, 1, 0, 0}, {0, 0, 0, 0}, {0, 0, 1, 0}});
        runIs(3, new int[][] {{0, 0, 1, 1}, {0, 0, 0, 1}, {1, 0, 0, 0}, {1, 0, 1, 0}});
        runIs(4, new int[][] {{1, 0, 1, 1}, {1, 0, 0, 1}, {0, 0, 0, 0}, {0, 0, 1, 0}});
        runIs(13, new int[][] {
            {0, 1, 1, 1}, {0, 1, 0, 1}, {0, 0, 0, 1}, {0, 0, 1, 1},
            {1, 0, 1, 0}, {1, 0, 0, 0}, {1, 1, 0, 0}, {1, 1, 1, 0}});
        runIs(12, new int[][] {
            {0, 3, 1, 0}, {0, 3, 0, 0}, {0, 0, 0, 0}, {0, 0, 1, 0},
            {0, 1, 1, 0}, {0, 1, 0, 0}, {0, 2, 0, 0}, {0, 2, 1, 0}});
        runIs(343, new int[][] {
            {4, 0, 1, 1}, {4, 0, 0, 1}, {3, 0, 0, 0}, {3, 0, 1, 0}, {0, 0, 1, 1}, {0, 0, 0, 1}, {7, 0, 0, 0}, {7, 0, 1, 0},
            {6, 0, 1, 1}, {6, 0, 0, 1}, {1, 0, 0, 0}, {1, 0, 1, 0}, {2, 0, 1, 1}, {2, 0, 0, 1}, {5, 0, 0, 0}, {5, 0, 1, 0}});
        runIs(212, new int[][] {
            {0, 3, 1, 0}, {0, 3, 0, 0}, {0, 4, 0, 0}, {0, 4, 1, 0}, {0, 7, 1, 0}, {0, 7, 0, 0}, {0, 0, 0, 0}, {0, 0, 1, 0},
            {0, 1, 1, 0}, {0, 1, 0, 0}, {0, 6, 0, 0}, {0, 6, 1, 0}, {0, 5, 1, 0}, {0, 5, 0, 0}, {0, 2, 0, 0}, {0, 2, 1, 0}});
        PressSheets x = new PressSheets();
        for (int i : new int[] {-1, 4, LEAST, GREATEST}) {
            due("5: run(" + i + ", 0)", x.run(i, 0), NONE);
        }
        for (int what : new int[] {-1, 4, LEAST, GREATEST}) {
            due("5: run(0, " + what + ")", x.run(0, what), NONE);
        }
    }

    private static void standsAt(PressSheets x, int page, int... want) {
        for (int what = 0; what < want.length; what++) {
            due("6: stands(" + page + ", " + what + ")", x.stands(page, what), want[what]);
        }
    }

    private static void promise6Stands() {
        // THE RUN of 13 is in promise5Run.
        PressSheets x = Jobs.job(13, 13, 0, 0);
        standsAt(x, 1, 0, 1, 0, 0, 1, 500, 2);
        standsAt(x, 2, 0, 0, 0, 1, 1, 1, 1);
        standsAt(x, 8, 0, 1, 1, 0, 0, 520, 7);
        standsAt(x, 9, 1, 1, 0, 0, 1, 1500, 10);
        standsAt(x, 13, 1, 1, 1, 1, 0, 1521, 14);
        standsAt(x, 16, 1, 1, 1, 0, 0, 1520, 15);
        x.set(2, 1);
        standsAt(x, 1, 0, 1, 1, 1, 0, 521, 2);
        standsAt(x, 2, 0, 0, 0, 1, 1, 1, 1);
        standsAt(x, 8, 0, 1, 0, 1, 1, 501, 7);
        x.set(1, 1);
        x.set(2, 0);
        standsAt(x, 5, 1, 1, 0, 0, 1, 1500, 6);
        standsAt(x, 8, 1, 1, 0, 1, 1, 1501, 7);
        standsAt(x, 9, 1, 1, 1, 1, 0, 1521, 10);
        standsAt(x, 12, 1, 1, 1, 0, 0, 1520, 11);
        standsAt(x, 13, 0, 1, 1, 1, 0, 521, 14);
        standsAt(x, 16, 0, 1, 1, 0, 0, 520, 15);
        for (int page : new int[] {0, -1, 17, LEAST, GREATEST}) {
            due("6: stands(" + page + ", 5)", x.stands(page, 5), NONE);
        }
        for (int what : new int[] {-1, 7, LEAST, GREATEST}) {
            due("6: stands(1, " + what + ")", x.stands(1, what), NONE);
        }
    }

    private static void promise7Page() {
        PressSheets x = Jobs.job(13, 13, 0, 0);
        int[][] sides = {{3, 2, 6, 7}, {1, 4, 8, 5}};
        for (int sheet = 0; sheet <= 1; sheet++) {
            for (int side = 0; side <= 1; side++) {
                for (int k = 0; k < 4; k++) {
                    int want = sides[side][k] + 8 * sheet;
                    due("7: page " + sheet + side + " " + k, x.page(10 * sheet + side, k / 2, k % 2), want);
                }
            }
        }
        x.set(2, 1);
        due("7: headways", x.page(1, 0, 0), 5);
        due("7: headways, right", x.page(1, 0, 1), 8);
        due("7: headways, below", x.page(1, 1, 0), 4);
        x.set(1, 1);
        x.set(2, 0);
        int[][] gathered = {{3, 2, 14, 15}, {1, 4, 16, 13}, {7, 6, 10, 11}, {5, 8, 12, 9}};
        for (int k = 0; k < 16; k++) {
            due("7: gathered " + k, x.page(10 * (k / 8) + k / 4 % 2, k / 2 % 2, k % 2), gathered[k / 4][k % 4]);
        }
        // by 343 a column of leaves: 4B 4F 3F 3B 0B 0F 7F 7B 6B 6F 1F 1B 2B 2F 5F 5B
        PressSheets high = Jobs.job(343, 16, 0, 0);
        int[] fronts = {6, 11, 14, 3, 2, 15, 10, 7}, backs = {5, 12, 13, 4, 1, 16, 9, 8};
        for (int row = 0; row < 8; row++) {
            due("7: front of 343, row " + row, high.page(0, row, 0), fronts[row]);
            due("7: back of 343, row " + row, high.page(1, row, 0), backs[row]);
        }
        // by 212 a row of leaves: 3B 3F 4F 4B 7B 7F 0F 0B 1B 1F 6F 6B 5B 5F 2F 2B
        PressSheets wide = Jobs.job(212, 16, 0, 1);
        fronts = new int[] {7, 10, 15, 2, 3, 14, 11, 6};
        for (int column = 0; column < 8; column++) {
            due("7: front of 212, column " + column, wide.page(0, 0, column), fronts[column]);
        }
        for (int forme : new int[] {-1, 2, 9, 12, 20, 21, LEAST, GREATEST}) {
            due("7: page(" + forme + ", 0, 0)", x.page(forme, 0, 0), NONE);
        }
        for (int place : new int[] {-1, 2, LEAST, GREATEST}) {
            due("7: page(0, " + place + ", 0)", x.page(0, place, 0), NONE);
            due("7: page(0, 0, " + place + ")", x.page(0, 0, place), NONE);
        }
    }

    private static void promise8Turned() {
        PressSheets x = Jobs.job(13, 13, 0, 0);
        int[][] sideways = {{3, 2, 1, 4}, {6, 7, 8, 5}};
        int[][] headways = {{3, 2}, {6, 7}, {5, 8}, {4, 1}};
        for (int row = 0; row < 2; row++) {
            for (int column = 0; column < 4; column++) {
                due("8: sideways", x.turned(0, row, column), sideways[row][column]);
                due("8: sideways, sheet 1", x.turned(1, row, column), 8 + sideways[row][column]);
            }
        }
        due("8: sideways, a row below", x.turned(0, 2, 0), NONE);
        due("8: sideways, a column too far", x.turned(0, 0, 4), NONE);
        x.set(2, 1);
        for (int row = 0; row < 4; row++) {
            for (int column = 0; column < 2; column++) {
                due("8: headways", x.turned(0, row, column), headways[row][column]);
            }
        }
        due("8: headways, a row too far", x.turned(0, 4, 0), NONE);
        due("8: headways, a column too far", x.turned(0, 0, 2), NONE);
        due("8: headways, the back of sheet 1", x.turned(1, 3, 0), 12);
        for (int bad : new int[] {-1, 429496730, LEAST, GREATEST}) {
            due("8: sheet " + bad, x.turned(bad, 0, 0), NONE);
            due("8: row " + bad, x.turned(0, bad, 0), NONE);
            due("8: column " + bad, x.turned(0, 0, bad), NONE);
        }
        due("8: sheet 2", x.turned(2, 0, 0), NONE);
    }

    private static void promise9Creep() {
        PressSheets x = Jobs.job(11, 13, 0, 0);
        int[] ofSheet = {0, 0, 100, 100, 100, 100, 0, 0};
        int[] ofAll = {0, 0, 100, 100, 200, 200, 300, 300, 300, 300, 200, 200, 100, 100, 0, 0};
        for (int page = 1; page <= 16; page++) {
            due("9: creep(" + page + ", 0)", x.creep(page, 0), ofSheet[(page - 1) % 8]);
        }
        x.set(1, 1);
        x.set(4, 7);
        for (int page = 1; page <= 16; page++) {
            due("9: gathered creep(" + page + ", 0)", x.creep(page, 0), ofAll[page - 1]);
            due("9: gathered creep(" + page + ", 1)", x.creep(page, 1), 7 * ofAll[page - 1]);
        }
        for (int page : new int[] {0, 17, LEAST, GREATEST}) {
            due("9: creep(" + page + ", 0)", x.creep(page, 0), NONE);
        }
        for (int what : new int[] {-1, 2, LEAST, GREATEST}) {
            due("9: creep(1, " + what + ")", x.creep(1, what), NONE);
        }
        x.set(3, 715827);
        x.set(4, 1000);
        due("9: an int's yet", x.creep(8, 1), 2147481000);
        x.set(3, 715828);
        due("9: no int's any more", x.creep(8, 1), OVER);
        due("9: creep alone", x.creep(8, 0), 2147484);
        PressSheets most = Jobs.job(1, 128, 1, 0);
        most.set(3, 1000000);
        most.set(4, 100000);
        due("9: the greatest", most.creep(64, 0), 31000000);
        due("9: the greatest, times copies", most.creep(64, 1), OVER);
    }

    private static void shareIs(PressSheets x, int page, long above, long below) {
        due("10: share(" + page + ", 0)", x.share(page, 0), above);
        due("10: share(" + page + ", 1)", x.share(page, 1), below);
    }

    private static void promise10Share() {
        PressSheets x = Jobs.job(11, 24, 1, 0);
        x.set(3, 123);
        shareIs(x, 1, 0, 1);
        shareIs(x, 3, 1, 5);
        shareIs(x, 20, 2, 5);
        shareIs(x, 12, 1, 1);
        x = Jobs.job(11, 28, 1, 0);
        shareIs(x, 9, 4, 7);
        shareIs(x, 14, 6, 7);
        // creeps that have no divisor but 1 in common
        x.set(3, 1);
        shareIs(x, 1, 0, 1);
        shareIs(x, 3, 1, 7);
        shareIs(x, 9, 4, 7);
        shareIs(x, 14, 6, 7);
        shareIs(x, 15, 1, 1);
        x = Jobs.job(111, 5, 0, 0);
        shareIs(x, 3, 1, 2);
        shareIs(x, 5, 1, 1);
        // the pages above 5 are empty: theirs may be more than the greatest of the others
        shareIs(x, 7, 3, 2);
        shareIs(x, 16, 0, 1);
        x.set(0, 2);
        shareIs(x, 1, 0, 1);
        shareIs(x, 9, 0, 1);
        due("10: 16 pages only", x.share(17, 0), NO);
        x.fold(11);
        x.set(0, 2);
        shareIs(x, 3, 0, 1);
        x.set(3, 0);
        x.set(0, 8);
        shareIs(x, 4, 0, 1);
        for (int page : new int[] {0, 9, LEAST, GREATEST}) {
            due("10: share(" + page + ", 0)", x.share(page, 0), NO);
        }
        for (int part : new int[] {-1, 2, LEAST, GREATEST}) {
            due("10: share(1, " + part + ")", x.share(1, part), NO);
        }
    }

    private static void promise11Waits() {
        PressSheets x = Jobs.job(1, 9, 0, 0);
        due("11: waits(21)", x.waits(21), 1);
        due("11: waits(0)", x.waits(0), 2);
        due("11: it waits already", x.waits(21), STATE);
        for (int forme : new int[] {-1, 2, 9, 12, 30, 31, LEAST, GREATEST}) {
            due("11: waits(" + forme + ")", x.waits(forme), NONE);
        }
        x.press(2);
        due("11: it is printed", x.waits(0), STATE);
        due("11: the back, as nothing else waits", x.press(1), 1);
        due("11: it is printed, as the second one", x.waits(21), STATE);
        due("11: the first one still is", x.waits(0), STATE);
        due("11: nothing waits", x.count(3), 0);
        x = Jobs.job(1, 128, 0, 0);
        for (int sheet = 0; sheet < 20; sheet++) {
            due("11: a front", x.waits(10 * sheet), 2 * sheet + 1);
            due("11: a back", x.waits(10 * sheet + 1), 2 * sheet + 2);
        }
        due("11: no forme ahead of full", x.waits(320), NONE);
        due("11: state ahead of full", x.waits(191), STATE);
        due("11: full", x.waits(200), FULL);
        x.press(1);
        due("11: room again", x.waits(200), 40);
        due("11: full again", x.waits(201), FULL);
    }

    private static void promise12Press() {
        PressSheets x = Jobs.job(1, 12, 0, 0);
        due("12: none waits", x.press(99), 0);
        x.waits(1);
        due("12: a back alone is printed", x.press(5), 1);
        due("12: it is", x.printed(0), 1);
        x.waits(11);
        x.waits(21);
        x.waits(20);
        due("12: both backs go to the end", x.press(2), 0);
        due("12: the front leads", x.line(0), 20);
        due("12: three strokes print the front and its back", x.press(3), 2);
        due("12: the front", x.printed(1), 20);
        due("12: its back, behind the other one that went to the end", x.printed(2), 21);
        due("12: the other one still waits", x.line(0), 11);
        due("12: alone it is printed", x.press(1), 1);
        x = Jobs.job(1, 12, 0, 0);
        x.waits(1);
        x.waits(11);
        due("12: fronts that don't come", x.press(99), 0);
        due("12: 99 strokes", x.line(0), 11);
        due("12: all still wait", x.count(3), 2);
        for (int n : new int[] {0, -1, 100, LEAST, GREATEST}) {
            due("12: press(" + n + ")", x.press(n), BAD);
        }
    }

    private static void promise13Clears() {
        PressSheets x = Jobs.job(1, 12, 0, 0);
        x.waits(20);
        x.press(1);
        x.waits(11);
        x.waits(21);
        x.waits(10);
        x.waits(0);
        due("13: two leave", x.clears(1), 2);
        due("13: the rest stays in order", 100 * x.line(0) + x.line(1), 2100);
        due("13: none leaves", x.clears(1), 0);
        due("13: one leaves", x.clears(2), 1);
        due("13: what is printed stays", x.printed(0), 20);
        due("13: it may wait again", x.waits(11), 2);
        x.waits(1);
        due("13: sheet 0", x.clears(0), 2);
        for (int sheet : new int[] {-1, 3, LEAST, GREATEST}) {
            due("13: clears(" + sheet + ")", x.clears(sheet), NONE);
        }
    }

    private static void promise14Line() {
        PressSheets x = Jobs.job(1, 8, 0, 0);
        x.waits(10);
        x.waits(0);
        due("14: line(0)", x.line(0), 10);
        due("14: line(1)", x.line(1), 0);
        for (int k : new int[] {2, 40, 41, GREATEST}) {
            due("14: line(" + k + ")", x.line(k), NO_MORE);
        }
        due("14: line(-1)", x.line(-1), NONE);
        due("14: the least line", x.line(LEAST), NONE);
    }

    private static void missingIs(PressSheets x, int many, int first, int last) {
        due("15: missing(0)", x.missing(0), many);
        due("15: missing(1)", x.missing(1), first);
        due("15: missing(2)", x.missing(2), last);
    }

    private static void promise15Missing() {
        PressSheets x = Jobs.job(1, 7, 0, 0);
        missingIs(x, 7, 1, 7);
        x.waits(0);
        x.press(1);
        missingIs(x, 5, 1, 7);
        x.waits(1);
        x.waits(11);
        x.press(9);
        missingIs(x, 2, 6, 7);
        x.waits(10);
        missingIs(x, 2, 6, 7);
        x.press(9);
        missingIs(x, 0, NO_MORE, NO_MORE);
        for (int what : new int[] {-1, 3, LEAST, GREATEST}) {
            due("15: missing(" + what + ")", x.missing(what), NONE);
        }
    }

    private static void promise16Printed() {
        PressSheets x = Jobs.job(1, 128, 0, 0);
        for (int sheet = 31; sheet >= 0; sheet--) {
            x.waits(10 * sheet);
            x.waits(10 * sheet + 1);
            x.press(2);
        }
        for (int k = 0; k < 64; k++) {
            due("16: printed(" + k + ")", x.printed(k), 10 * (31 - k / 2) + k % 2);
        }
        for (int k : new int[] {64, 65, GREATEST}) {
            due("16: printed(" + k + ")", x.printed(k), NO_MORE);
        }
        due("16: printed(-1)", x.printed(-1), NONE);
        due("16: the least printed", x.printed(LEAST), NONE);
    }

    private static void promise17Plan() {
        PressSheets x = Jobs.job(13, 13, 0, 0);
        due("17: the first", x.plan(11, 1, 0, 13, 1), 1);
        due("17: the second", x.plan(0, 0, 1, 1, 0), 2);
        due("17: the first one anew", x.plan(11, 1, 0, 2, 0), 2);
        due("17: in its place", x.planned(0, 1), 2);
        due("17: its head too", x.planned(0, 2), 0);
        for (int forme : new int[] {-1, 2, 20, LEAST, GREATEST}) {
            due("17: forme " + forme, x.plan(forme, 0, 0, 99, 9), NONE);
        }
        for (int place : new int[] {-1, 2, LEAST, GREATEST}) {
            due("17: row " + place, x.plan(0, place, 0, 99, 9), NONE);
            due("17: column " + place, x.plan(0, 0, place, 99, 9), NONE);
        }
        for (int page : new int[] {0, 14, LEAST, GREATEST}) {
            due("17: page " + page, x.plan(0, 0, 0, page, 0), BAD);
        }
        for (int head : new int[] {-1, 2, LEAST, GREATEST}) {
            due("17: head " + head, x.plan(0, 0, 0, 1, head), BAD);
        }
        due("17: as many as before", x.count(5), 2);
        x = Jobs.job(1, 128, 0, 0);
        for (int k = 0; k < 60; k++) {
            due("17: cell " + k, x.plan(10 * (k / 4) + k / 2 % 2, 0, k % 2, 1, 0), k + 1);
        }
        due("17: none ahead of full", x.plan(320, 0, 0, 1, 0), NONE);
        due("17: bad ahead of full", x.plan(150, 0, 0, 129, 0), BAD);
        due("17: full", x.plan(150, 0, 0, 1, 0), FULL);
        due("17: one that is told already", x.plan(141, 0, 1, 7, 1), 60);
        due("17: it is anew", x.planned(59, 1), 7);
    }

    private static void promise18Unplan() {
        PressSheets x = Jobs.job(13, 8, 0, 0);
        x.plan(0, 0, 0, 5, 0);
        x.plan(0, 0, 1, 6, 1);
        x.plan(0, 1, 0, 5, 0);
        x.plan(0, 1, 1, 7, 0);
        due("18: two go", x.unplan(5), 2);
        due("18: the others close up", x.planned(0, 0) * 100 + x.planned(1, 0), 121);
        due("18: with page and head", x.planned(0, 1) * 10 + x.planned(0, 2), 61);
        due("18: none goes", x.unplan(5), 0);
        due("18: nothing is told of the first page", x.unplan(1), 0);
        due("18: nor of the last one", x.unplan(8), 0);
        for (int page : new int[] {0, 9, LEAST, GREATEST}) {
            due("18: unplan(" + page + ")", x.unplan(page), NONE);
        }
        due("18: two are left", x.count(5), 2);
    }

    private static void promise19Planned() {
        PressSheets x = Jobs.job(13, 13, 0, 0);
        x.plan(11, 1, 0, 13, 1);
        due("19: the cell", x.planned(0, 0), 1520);
        due("19: the page", x.planned(0, 1), 13);
        due("19: the head", x.planned(0, 2), 1);
        for (int k : new int[] {-1, 1, 60, LEAST, GREATEST}) {
            due("19: planned(" + k + ", 0)", x.planned(k, 0), NONE);
        }
        for (int what : new int[] {-1, 3, LEAST, GREATEST}) {
            due("19: planned(0, " + what + ")", x.planned(0, what), NONE);
        }
    }

    private static void promise20Plans() {
        PressSheets x = Jobs.job(13, 6, 0, 0);
        x.plan(0, 1, 0, 1, 0);
        // 7 and 8 are empty: what is told by hand of their cell stays
        x.plan(1, 1, 0, 2, 0);
        due("20: six pages and the cell of page 8", x.plans(), 7);
        int[][] want = {{20, 6, 0}, {520, 2, 0}, {0, 3, 1}, {1, 2, 1}, {500, 1, 1}, {501, 4, 1}, {521, 5, 0}};
        for (int k = 0; k < want.length; k++) {
            for (int what = 0; what <= 2; what++) {
                due("20: planned(" + k + ", " + what + ")", x.planned(k, what), want[k][what]);
            }
        }
        x = Jobs.job(1, 128, 0, 0);
        x.plan(311, 0, 0, 1, 1);
        due("20: as many as there is room for", x.plans(), 60);
        due("20: one behind the room, told already", x.planned(0, 1), 128);
        due("20: its head", x.planned(0, 2), 0);
        due("20: the last one", x.planned(59, 0), 14500);
        due("20: once more", x.plans(), 60);
    }

    private static void proofIs(PressSheets x, int... want) {
        for (int k = 0; k < 5; k++) {
            due("21: proof(" + k + ")", x.proof(k), k < want.length ? want[k] : NO_MORE);
        }
        due("21: a far one", x.proof(GREATEST), NO_MORE);
    }

    private static void promise21Proof() {
        PressSheets x = Jobs.job(13, 8, 0, 0);
        proofIs(x, 1, 1);
        x.plans();
        proofIs(x, 0);
        x.plan(0, 0, 0, 3, 0);
        proofIs(x, 4, 3, 0, 1);
        x.plan(0, 0, 1, 3, 1);
        proofIs(x, 1, 2);
        x.plan(1, 1, 0, 2, 0);
        proofIs(x, 3, 2, 520, 1);
        x.plan(1, 0, 0, 2, 1);
        proofIs(x, 1, 1);
        x.plan(1, 0, 0, 1, 1);
        x.plan(0, 0, 1, 2, 1);
        // page 2 stands rightly, and on a second cell: which came later
        proofIs(x, 2, 2, 1, 520);
        x.plan(1, 1, 1, 2, 1);
        proofIs(x, 2, 2, 1, 520);
        due("21: below 0", x.proof(-1), NONE);
        due("21: the least", x.proof(LEAST), NONE);
        // headways the backs' heads are the other way about
        x = Jobs.job(13, 8, 0, 1);
        x.plan(1, 1, 1, 1, 1);
        proofIs(x, 4, 1, 521, 0);
        x.plans();
        x.unplan(8);
        proofIs(x, 1, 8);
        x.set(2, 0);
        x.set(0, 6);
        // anew behind a plan that was emptied: the cells, pages and heads of now
        x.plan(0, 0, 0, 1, 1);
        x.plan(0, 0, 1, 1, 0);
        proofIs(x, 2, 1, 0, 1);
    }

    private static void promise22See() {
        PressSheets x = new PressSheets();
        due("22: the first", x.see(0, 0, 0, 1), 1);
        due("22: the same again", x.see(0, 0, 0, 1), 2);
        due("22: the greatest", x.see(311, 15, 15, 128), 3);
        for (int forme : new int[] {-2, 2, 312, 319, 320, LEAST, GREATEST}) {
            due("22: forme " + forme, x.see(forme, 0, 0, 1), BAD);
        }
        for (int bad : new int[] {-1, 16, LEAST, GREATEST}) {
            due("22: row " + bad, x.see(0, bad, 0, 1), BAD);
            due("22: column " + bad, x.see(0, 0, bad, 1), BAD);
        }
        for (int page : new int[] {0, -1, 129, LEAST, GREATEST}) {
            due("22: page " + page, x.see(0, 0, 0, page), BAD);
        }
        due("22: the fourth", x.see(0, 0, 0, 2), 4);
        due("22: the fifth", x.see(0, 0, 0, 3), 5);
        due("22: bad ahead of full", x.see(2, 0, 0, 3), BAD);
        due("22: full", x.see(0, 0, 0, 4), FULL);
        due("22: none then", x.see(-1, 99, -99, 999), 0);
        due("22: none is seen", x.count(0), 0);
        due("22: one again", x.see(1, 0, 0, 1), 1);
    }

    private static void promise23Fits() {
        PressSheets x = new PressSheets();
        due("23: nothing is seen: all folds", x.fits(0), 4);
        due("23: the least", x.fits(1), 1);
        x.fold(4444);
        due("23: all folds of 4 figures", x.fits(0), 256);
        due("23: the least of them", x.fits(1), 1111);
        x.fold(1);
        // page 1 by 1 on 501, by 2 on 500, by 3 on 500, by 4 on 520
        x.see(1, 0, 0, 1);
        due("23: two folds", x.fits(0), 2);
        due("23: 2 is the least", x.fits(1), 2);
        x.see(0, 1, 0, 3);
        due("23: one fold", x.fits(0), 1);
        due("23: 3 is it", x.fits(1), 3);
        x.see(0, 0, 1, 3);
        due("23: no fold has both cells", x.fits(0), 0);
        due("23: no least", x.fits(1), NO_MORE);
        due("23: the fold is as it was", x.told(5), 1);
        x = Jobs.job(2, 3, 0, 0);
        x.see(1, 0, 1, 4);
        due("23: an empty page stands too", x.fits(0), 1);
        due("23: by 2", x.fits(1), 2);
        x.see(-1, 0, 0, 0);
        x.see(10, 0, 0, 5);
        due("23: a sheet that isn't there", x.fits(0), 0);
        x.set(0, 5);
        due("23: it is there", x.fits(0) > 0 ? 1 : 0, 0);
        x.see(-1, 0, 0, 0);
        x.see(10, 0, 0, 6);
        due("23: page 6 of sheet 1 at the left upper cell: by 1 and 3", x.fits(0) * 10 + x.fits(1), 21);
        x.see(11, 0, 0, 8);
        due("23: its back: by 1", x.fits(0) * 10 + x.fits(1), 11);
        x.set(0, 9);
        x.see(20, 0, 1, 11);
        due("23: sheet 2: by 1", x.fits(0) * 10 + x.fits(1), 11);
        for (int what : new int[] {-1, 2, LEAST, GREATEST}) {
            due("23: fits(" + what + ")", x.fits(what), NONE);
        }
    }

    private static void promise24Event() {
        PressSheets x = new PressSheets();
        int[][] right = {{0, 1}, {0, 128}, {1, 0}, {1, 1}, {2, 0}, {2, 1}, {3, 1}, {3, 4}};
        int[][] bad = {{0, 0}, {0, 129}, {1, -1}, {1, 2}, {2, -1}, {2, 2}, {3, 0}, {3, 5}, {0, LEAST}, {3, GREATEST}};
        for (int[] row : bad) {
            due("24: event(" + row[0] + ", " + row[1] + ")", x.event(row[0], row[1]), BAD);
        }
        for (int what : new int[] {-2, 4, LEAST, GREATEST}) {
            due("24: event(" + what + ", 1)", x.event(what, 1), NONE);
        }
        for (int k = 0; k < right.length; k++) {
            due("24: event(" + right[k][0] + ", " + right[k][1] + ")", x.event(right[k][0], right[k][1]), k + 1);
        }
        due("24: none ahead of full", x.event(4, 1), NONE);
        due("24: bad ahead of full", x.event(1, 2), BAD);
        due("24: full", x.event(1, 1), FULL);
        due("24: none then", x.event(-1, 77), 0);
        due("24: no event is left", x.count(1), 0);
        due("24: one again", x.event(3, 2), 1);
        due("24: it is the new one", x.after(0) * 10 + x.after(2), 14);
        due("24: none, once more", x.event(-1, 0), 0);
        due("24: pages then", x.event(0, 5), 1);
        due("24: so many", x.after(0) * 10 + x.after(2), 23);
    }

    private static void afterIs(PressSheets x, int sheets, int cell, int empty) {
        due("25: after(0)", x.after(0), sheets);
        due("25: after(1)", x.after(1), cell);
        due("25: after(2)", x.after(2), empty);
    }

    private static void promise25After() {
        PressSheets x = new PressSheets();
        afterIs(x, 1, 501, 0);
        x.event(0, 17);
        afterIs(x, 5, 501, 3);
        x.event(3, 3);
        // behind 13 page 1 is on the back of row 0, column 1: seen sideways at column 0
        afterIs(x, 3, 500, 7);
        x.event(2, 1);
        afterIs(x, 3, 521, 7);
        x.event(0, 8);
        afterIs(x, 1, 521, 0);
        x.event(1, 1);
        afterIs(x, 1, 521, 0);
        due("25: the job is as it was", x.told(0) + 100 * x.told(5), 104);
        x.fold(1111);
        x.event(3, 3);
        due("25: no fifth figure", x.after(2), 24);
        for (int what : new int[] {-1, 3, LEAST, GREATEST}) {
            due("25: after(" + what + ")", x.after(what), NONE);
        }
    }

    private static void promise26Feed() {
        PressSheets x = new PressSheets();
        for (int sign : new int[] {-1, 128, LEAST, GREATEST}) {
            due("26: feed(" + sign + ")", x.feed(sign), BAD);
        }
        for (int k = 0; k < 100; k++) {
            due("26: sign " + k, x.feed(k == 0 ? 0 : k == 1 ? 127 : 'n'), k + 1);
        }
        due("26: bad ahead of full", x.feed(128), BAD);
        due("26: full", x.feed('n'), FULL);
        due("26: a hundred", x.count(2), 100);
    }

    private static void promise27Read() {
        PressSheets x = new PressSheets();
        due("27: all clauses", Jobs.read(x, "f1342;n0000128;g1;t1;c1000000,100000;w11"), 6);
        due("27: the text is empty", x.count(2), 0);
        int[] told = {128, 1, 1, 1000000, 100000, 1342, 4, 4, 4, 0};
        for (int what = 0; what < told.length; what++) {
            due("27: told(" + what + ")", x.told(what), told[what]);
        }
        due("27: it waits", x.line(0), 11);
        due("27: nothing becomes another one", Jobs.read(x, "f1342;n128;g1;t1;c1000000,100000"), 5);
        due("27: it still waits", x.line(0), 11);
        due("27: refused ones", Jobs.read(x, "n0;n129;g2;t2;c1000001,1;c0,0;w11;w2;w40;n9999999"), 0);
        due("27: they changed nothing", x.told(0) + x.told(1) + x.told(2) + x.count(3), 131);
        due("27: c as a whole", x.told(3) + x.told(4), 1100000);
        due("27: c refused by its second number", Jobs.read(x, "c5,100001;c7,1"), 1);
        due("27: the good one was done", x.told(3) * 10 + x.told(4), 71);
        x.plan(0, 0, 0, 1, 0);
        due("27: there and back again", Jobs.read(x, "n3;n128;w0"), 3);
        due("27: that emptied the press, and the plan", x.count(3) * 10 + x.count(5), 10);
        due("27: a fault: nothing is done", Jobs.read(x, "n3;g0;"), -16);
        due("27: nothing was", x.told(0), 128);
        due("27: the text is empty by a fault, too", x.count(2), 0);
        due("27: ten clauses", Jobs.read(x, "n1;n2;n3;n4;n5;n6;n7;n8;n9;n10"), 10);
        due("27: the last one counts", x.told(0), 10);
    }

    private static void promise27Faults() {
        String[] texts = {
            "", "x", "N1", "1", ";", " n1", "n", "nx", "n 1", "n-1", "n1 ", "n1,", "n1;", "n1;;n2", "n1;x", "n12345678",
            "n1234567", "f", "f0", "f5", "f15", "f11115", "f1111;", "f12a", "g", "t", "w", "c", "c1", "c1;", "c1,", "c1,x",
            "c1,2,", "c12345678", "c1234567,12345678", "c,1", "n1;n1;n1;n1;n1;n1;n1;n1;n1;n1;", "n1n1"};
        int[] places = {
            0, 0, 0, 0, 0, 0, 1, 1, 1, 1, 2, 2, 3, 3, 3, 8,
            -1, 1, 1, 1, 2, 5, 6, 3, 1, 1, 1, 1, 2, 2, 3, 3,
            4, 8, 16, 1, 29, 2};
        for (int k = 0; k < texts.length; k++) {
            if (places[k] >= 0) {
                due("27: fault of '" + texts[k] + "'", Jobs.read(new PressSheets(), texts[k]), -10 - places[k]);
            }
        }
        due("27: seven digits are no fault", Jobs.read(new PressSheets(), "n1234567"), 0);
        StringBuilder full = new StringBuilder();
        for (int k = 0; k < 6; k++) {
            full.append("c0000001,0000001;");
        }
        due("27: a hundred signs: the sixth clause has 0 copies", Jobs.read(new PressSheets(), full.substring(0, 100)), 5);
        due("27: a text that ends too early", Jobs.read(new PressSheets(), full.substring(0, 94)), -10 - 94);
    }

    private static void promise28Judge() {
        PressSheets x = Jobs.job(13, 6, 0, 0);
        Jobs.shorts(x, 2, 9, 3, 2, 6, 0, 1, 4, 0, 5);
        due("28: the front", x.judge(0, 2, 1), NO_MORE);
        due("28: the back, with an empty page", x.judge(1, 2, 5), NO_MORE);
        due("28: the first is otherwise", x.judge(0, 2, 0), 0);
        x.item(2, 3, 7);
        due("28: the third is otherwise", x.judge(0, 2, 1), 2);
        x.item(2, 3, 6);
        x.item(2, 4, 7);
        due("28: an empty page told by its number", x.judge(0, 2, 1), 3);
        due("28: the row ends", x.judge(1, 2, 9), 100);
        Jobs.shorts(x, 2, 1, 4, 0);
        due("28: three were looked at", x.judge(1, 2, 0), 103);
        Jobs.shorts(x, 2, 1, 5, 0);
        due("28: otherwise ahead of the end", x.judge(1, 2, 0), 1);
        due("28: a place below 0", x.judge(1, 2, -1), 100);
        due("28: the least place", x.judge(1, 2, LEAST), 100);
        due("28: the greatest place", x.judge(1, 2, GREATEST), 100);
        due("28: a tape that holds nothing", x.judge(1, 3, 0), 100);
        x.tape(3, SHORTS, 0);
        due("28: an empty row", x.judge(1, 3, 0), 100);
        x.set(0, 9);
        Jobs.shorts(x, 3, 0, 0, 0, 0, 9, 0, 0, 0);
        due("28: the front of sheet 1: all are empty", x.judge(10, 3, 0), NO_MORE);
        due("28: its back", x.judge(11, 3, 4), NO_MORE);
        due("28: its back from elsewhere", x.judge(11, 3, 0), 0);
        x.set(0, 6);
        for (int sort : new int[] {BYTES, INTS, LONGS, BOOLEANS}) {
            x.tape(3, sort, 4);
            due("28: sort " + sort, x.judge(1, 3, 0), CAST);
            due("28: cast ahead of the place", x.judge(1, 3, -1), CAST);
        }
        for (int forme : new int[] {-1, 2, 10, 20, LEAST, GREATEST}) {
            due("28: forme " + forme, x.judge(forme, 3, 0), NONE);
        }
        for (int tape : new int[] {-1, 6, LEAST, GREATEST}) {
            due("28: tape " + tape, x.judge(0, tape, 0), NONE);
        }
    }

    private static void promise29Image() {
        PressSheets x = Jobs.job(13, 17, 0, 0);
        due("29: its sheets", x.image(), 3);
        x.set(0, 1);
        due("29: anew", x.image(), 1);
        due("29: back to the newest", x.undo() + 10 * x.told(0), 11);
    }

    private static void promise30Undo() {
        PressSheets x = Jobs.job(13, 17, 1, 1);
        due("30: no image", x.undo(), STATE);
        x.set(3, 8);
        x.set(4, 9);
        x.waits(0);
        x.waits(11);
        x.waits(1);
        x.press(1);
        x.plan(11, 1, 0, 13, 1);
        x.see(0, 0, 0, 3);
        x.event(0, 20);
        x.feed('n');
        x.tape(0, LONGS, 2);
        x.image();
        x.feed('5');
        x.item(0, 1, 77);
        for (int time = 0; time < 2; time++) {
            x.set(0, 99);
            x.fold(2);
            x.set(1, 0);
            x.set(2, 0);
            x.set(3, 1);
            x.set(4, 1);
            x.waits(10);
            x.plan(0, 0, 0, 1, 0);
            x.plan(0, 0, 1, 1, 0);
            x.see(1, 1, 1, 1);
            x.event(-1, 0);
            due("30: sheets again", x.undo(), 3);
            int[] told = {17, 1, 1, 8, 9, 13};
            for (int what = 0; what < told.length; what++) {
                due("30: told(" + what + ")", x.told(what), told[what]);
            }
            due("30: the line", x.line(0) * 100 + x.line(1), 1101);
            due("30: what is printed", x.printed(0) * 10 + x.count(4), 1);
            due("30: the plan", x.planned(0, 0) * 100 + x.planned(0, 1), 152013);
            due("30: its head", x.planned(0, 2) * 10 + x.count(5), 11);
            due("30: seen", x.count(0), 1);
            due("30: events", x.count(1) * 100 + x.after(2), 104);
        }
        due("30: the text is not of it", x.count(2), 2);
        due("30: nor are the tapes", x.peek(0, 1), 77);
        x.see(-1, 0, 0, 0);
        x.see(1, 0, 0, 1);
        x.undo();
        x.fold(4);
        x.set(0, 4);
        x.set(2, 0);
        // seen is page 3 at the left upper front again: by 2 and 4
        due("30: what was seen", x.fits(0) * 10 + x.fits(1), 22);
    }

    private static void promise31Count() {
        PressSheets x = Jobs.job(1, 8, 0, 0);
        x.see(0, 0, 0, 1);
        for (int k = 0; k < 2; k++) {
            x.event(1, 0);
        }
        for (int k = 0; k < 3; k++) {
            x.feed('n');
        }
        x.waits(0);
        x.press(1);
        x.waits(1);
        x.waits(10);
        x.waits(11);
        for (int k = 0; k < 4; k++) {
            x.plan(10 * (k / 2), 0, k % 2, 1, 0);
        }
        int[] want = {1, 2, 3, 3, 1, 4};
        for (int what = 0; what < want.length; what++) {
            due("31: count(" + what + ")", x.count(what), want[what]);
        }
        for (int what : new int[] {-1, 6, LEAST, GREATEST}) {
            due("31: count(" + what + ")", x.count(what), BAD);
        }
    }

    private static void promise32Tape() {
        PressSheets x = new PressSheets();
        for (int tape = 0; tape <= 5; tape++) {
            due("32: tape " + tape, x.tape(tape, tape % 5, 60), 1);
            due("32: all 0", x.peek(tape, 59), 0);
            due("32: no place 60", x.peek(tape, 60), NO);
        }
        x.item(3, 5, 9);
        x.item(3, 0, 9);
        due("32: anew", x.tape(3, INTS, 6), 1);
        due("32: all 0 again", x.peek(3, 5), 0);
        due("32: the first, too", x.peek(3, 0), 0);
        due("32: shorter", x.peek(3, 6), NO);
        for (int tape : new int[] {-1, 6, LEAST, GREATEST}) {
            due("32: tape " + tape, x.tape(tape, 9, -1), NONE);
        }
        for (int sort : new int[] {-2, 5, LEAST, GREATEST}) {
            due("32: sort " + sort, x.tape(3, sort, -1), BAD);
        }
        due("32: n above 60", x.tape(3, INTS, 61), BAD);
        due("32: the greatest n", x.tape(3, INTS, GREATEST), BAD);
        due("32: n below 0", x.tape(3, INTS, -1), SIZE);
        due("32: the least n", x.tape(3, INTS, LEAST), SIZE);
        due("32: it is as it was", x.peek(3, 5), 0);
        due("32: no item", x.tape(3, INTS, 0), 1);
        due("32: it has no place", x.peek(3, 0), NO);
        due("32: but it is there", x.item(3, 0, 1), PLACE);
        due("32: nothing then", x.tape(3, -1, 61), 1);
        due("32: nothing is there", x.item(3, 0, 1), NOTHING);
        due("32: nothing then, n below 0", x.tape(4, -1, LEAST), 1);
    }

    private static void promise33Item() {
        PressSheets x = new PressSheets();
        long[][] put = {
            {BYTES, 200, -56}, {BYTES, 256, 0}, {BYTES, -129, 127}, {SHORTS, 40000, -25536}, {SHORTS, 65536, 0},
            {INTS, 4294967295L, -1}, {INTS, 4294967296L, 0}, {LONGS, Long.MAX_VALUE, Long.MAX_VALUE}, {LONGS, NO, NO},
            {BOOLEANS, 0, 0}, {BOOLEANS, 1, 1}, {BOOLEANS, -2, 1}, {BOOLEANS, 4294967296L, 1}};
        for (long[] row : put) {
            x.tape(1, (int) row[0], 2);
            due("33: item", x.item(1, 1, row[1]), 1);
            due("33: sort " + row[0] + " of " + row[1], x.peek(1, 1), row[2]);
            due("33: the other one is as it was", x.peek(1, 0), 0);
        }
        for (int i : new int[] {-1, 2, 60, LEAST, GREATEST}) {
            due("33: place " + i, x.item(1, i, 1), PLACE);
            due("33: nothing at " + i, x.item(2, i, 1), NOTHING);
        }
        for (int tape : new int[] {-1, 6, LEAST, GREATEST}) {
            due("33: tape " + tape, x.item(tape, 0, 1), NONE);
        }
    }

    private static void promise34Peek() {
        PressSheets x = new PressSheets();
        x.tape(5, LONGS, 3);
        x.item(5, 2, -8);
        due("34: the last", x.peek(5, 2), -8);
        due("34: the first", x.peek(5, 0), 0);
        for (int i : new int[] {-1, 3, LEAST, GREATEST}) {
            due("34: place " + i, x.peek(5, i), NO);
        }
        for (int tape : new int[] {-1, 6, LEAST, GREATEST}) {
            due("34: tape " + tape, x.peek(tape, 0), NO);
        }
        due("34: nothing there", x.peek(4, 0), NO);
    }

    private static void tapeIs(PressSheets x, int tape, long... want) {
        for (int i = 0; i < want.length; i++) {
            due("35: item " + i, x.peek(tape, i), want[i]);
        }
        due("35: the end", x.peek(tape, want.length), NO);
    }

    private static void promise35Shift() {
        PressSheets x = new PressSheets();
        Jobs.shorts(x, 0, 1, 2, 3, 4, 5);
        Jobs.shorts(x, 1, 9, 8, 7);
        due("35: to another one", x.shift(0, 3, 1, 0, 2), 2);
        tapeIs(x, 1, 4, 5, 7);
        tapeIs(x, 0, 1, 2, 3, 4, 5);
        due("35: the same, up", x.shift(0, 0, 0, 1, 4), 4);
        tapeIs(x, 0, 1, 1, 2, 3, 4);
        due("35: the same, down", x.shift(0, 1, 0, 0, 4), 4);
        tapeIs(x, 0, 1, 2, 3, 4, 4);
        due("35: no item, at the ends", x.shift(0, 5, 1, 3, 0), 0);
        int[][] wrong = {
            {-1, 0, 1}, {0, -1, 1}, {0, 0, -1}, {5, 0, 1}, {0, 3, 1}, {6, 0, 0}, {0, 4, 0}, {0, 0, 4}, {3, 0, 3},
            {GREATEST, 0, 1}, {0, GREATEST, 1}, {0, 0, GREATEST}, {1, 1, GREATEST}, {LEAST, 0, 1}, {0, LEAST, 1},
            {0, 0, LEAST}, {GREATEST, GREATEST, GREATEST}};
        for (int[] row : wrong) {
            due("35: place", x.shift(0, row[0], 1, row[1], row[2]), PLACE);
        }
        tapeIs(x, 1, 4, 5, 7);
        x.tape(2, INTS, 3);
        due("35: unlike sorts", x.shift(0, 0, 2, 0, 1), CAST);
        due("35: cast ahead of place", x.shift(2, -1, 0, 0, 1), CAST);
        due("35: nothing to take", x.shift(3, 0, 0, 0, 1), NOTHING);
        due("35: nothing to fill", x.shift(0, -1, 3, 0, 1), NOTHING);
        for (int tape : new int[] {-1, 6, LEAST, GREATEST}) {
            due("35: from tape " + tape, x.shift(tape, 0, 3, 0, 1), NONE);
            due("35: to tape " + tape, x.shift(3, 0, tape, 0, 1), NONE);
        }
    }
}
