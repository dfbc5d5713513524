import java.util.ArrayList;
import java.util.List;

/**
 * "The first that a call's words name. What is answered so changes nothing.": every refusal of every call, those with two
 * reasons too, on a busy object, a full one and a new one; and every call that only asks. Behind each all that can be seen
 * of the object is compared with its twin that was not called.
 */
public final class RefusalsTest {
    private static final int NONE = -1, BAD = -2, STATE = -3, FULL = -4, NO_MORE = -5;
    private static final int NOTHING = -11, CAST = -12, PLACE = -13, SIZE = -14;
    private static final long NO = Long.MIN_VALUE;
    private static final int BYTES = 0, LONGS = 3;
    private static final int LEAST = Jobs.LEAST, GREATEST = Jobs.GREATEST;
    private static final Check CHECK = new Check("RefusalsTest");
    private static final List<Row> ROWS = new ArrayList<>();

    private interface Call {
        long on(PressSheets x);
    }

    private interface Maker {
        PressSheets make();
    }

    private static final class Row {
        final String name;
        final long want;
        final Call call;

        Row(String name, long want, Call call) {
            this.name = name;
            this.want = want;
            this.call = call;
        }
    }

    public static void main(String[] args) {
        CHECK.sentence("What is answered so changes nothing (a busy object)");
        refusalsOfJobAndPress();
        refusalsOfPlansAndSeen();
        refusalsOfTextsAndTapes();
        compareAll(RefusalsTest::busy);
        CHECK.sentence("the first that a call's words name");
        twoReasons();
        compareAll(RefusalsTest::busy);
        CHECK.sentence("FULL (-4)");
        whatIsFull();
        compareAll(RefusalsTest::full);
        CHECK.sentence("STATE (-3) as told; what a new object has none of");
        whatIsNew();
        compareAll(PressSheets::new);
        CHECK.sentence("what is asked changes nothing");
        whatIsAsked();
        compareAll(RefusalsTest::busy);
        CHECK.end();
    }

    private static void row(String name, long want, Call call) {
        ROWS.add(new Row(name, want, call));
    }

    private static void compareAll(Maker maker) {
        List<Long> before = seenOf(maker.make());
        for (Row row : ROWS) {
            PressSheets x = maker.make();
            CHECK.due(row.name, row.call.on(x), row.want);
            CHECK.due("once more: " + row.name, row.call.on(x), row.want);
            CHECK.holds(row.name + " changes nothing", seenOf(x).equals(before));
        }
        ROWS.clear();
    }

    /** Two sheets, each kind of row with something in it; the image is of another job. */
    private static PressSheets busy() {
        PressSheets x = Jobs.job(13, 13, 1, 1);
        x.image();
        x.set(3, 7);
        x.set(4, 9);
        x.waits(0);
        x.press(1);
        x.waits(11);
        x.waits(10);
        x.plan(0, 0, 0, 3, 1);
        x.plan(11, 1, 1, 13, 0);
        x.see(0, 0, 0, 3);
        x.see(0, 0, 1, 2);
        x.event(0, 20);
        x.event(3, 2);
        Jobs.feed(x, "c5,6;n9");
        for (int tape = 0; tape < 5; tape++) {
            x.tape(tape, tape, 3);
            x.item(tape, 2, 1 + tape);
        }
        return x;
    }

    private static PressSheets full() {
        PressSheets x = Jobs.job(1, 128, 0, 0);
        for (int k = 0; k < 40; k++) {
            x.waits(10 * (k / 2) + k % 2);
        }
        for (int k = 0; k < 60; k++) {
            x.plan(10 * (k / 4) + k / 2 % 2, 0, k % 2, k + 1, 0);
        }
        for (int k = 0; k < 5; k++) {
            x.see(0, 0, 0, 2);
        }
        for (int k = 0; k < 8; k++) {
            x.event(0, 100 + k);
        }
        Jobs.feed(x, "c0000001,0000002;".repeat(5) + "c0000003,000004");
        x.tape(0, LONGS, 60);
        x.item(0, 59, 1);
        return x;
    }

    /** All that can be seen; the text by reading it, the image by going back to it. */
    private static List<Long> seenOf(PressSheets x) {
        List<Long> all = new ArrayList<>();
        seenOfJob(x, all);
        seenOfRows(x, all);
        for (int tape = 0; tape < 6; tape++) {
            for (int i : new int[] {0, 1, 2, 3, 59}) {
                all.add(x.peek(tape, i));
            }
            // of another sort another number
            all.add((long) x.item(tape, 0, 1L << 40 | 1 << 20 | 700));
            all.add(x.peek(tape, 0));
        }
        all.add((long) x.read());
        seenOfJob(x, all);
        all.add((long) x.undo());
        seenOfJob(x, all);
        seenOfRows(x, all);
        return all;
    }

    private static void seenOfJob(PressSheets x, List<Long> all) {
        for (int what = 0; what <= 9; what++) {
            all.add((long) x.told(what));
        }
        for (int what = 0; what <= 5; what++) {
            all.add((long) x.count(what));
        }
    }

    private static void seenOfRows(PressSheets x, List<Long> all) {
        for (int k : new int[] {0, 1, 2, 39, 40}) {
            all.add((long) x.line(k));
            all.add((long) x.printed(k));
        }
        for (int k : new int[] {0, 1, 2, 58, 59, 60}) {
            for (int what = 0; what <= 2; what++) {
                all.add((long) x.planned(k, what));
            }
        }
        for (int k = 0; k <= 4; k++) {
            all.add((long) x.proof(k));
        }
        for (int what = 0; what <= 2; what++) {
            all.add((long) x.missing(what));
            all.add((long) x.after(what));
        }
        all.add((long) x.fits(0));
        all.add((long) x.fits(1));
    }

    private static void refusalsOfJobAndPress() {
        for (int word : new int[] {0, -1, 5, 10, 105, 11111, LEAST, GREATEST}) {
            row("fold " + word, BAD, x -> x.fold(word));
        }
        for (int what : Jobs.outside(0, 4)) {
            row("set what " + what, NONE, x -> x.set(what, 1));
        }
        int[][] ranges = {{1, 128}, {0, 1}, {0, 1}, {0, 1000000}, {1, 100000}};
        for (int k = 0; k < 5; k++) {
            int what = k;
            for (int v : Jobs.outside(ranges[k][0], ranges[k][1])) {
                row("set " + what + " to " + v, BAD, x -> x.set(what, v));
            }
        }
        for (int forme : new int[] {-1, 2, 9, 12, 20, LEAST, GREATEST}) {
            row("waits " + forme, NONE, x -> x.waits(forme));
        }
        row("waits: waits already", STATE, x -> x.waits(11));
        row("waits: is printed", STATE, x -> x.waits(0));
        for (int n : Jobs.outside(1, 99)) {
            row("press " + n, BAD, x -> x.press(n));
        }
        for (int sheet : Jobs.outside(0, 1)) {
            row("clears " + sheet, NONE, x -> x.clears(sheet));
        }
        row("clears a sheet none of which waits", 0, x -> x.clears(0));
    }

    private static void refusalsOfPlansAndSeen() {
        for (int bad : new int[] {-1, 2, 20, LEAST, GREATEST}) {
            row("plan forme " + bad, NONE, x -> x.plan(bad, 0, 0, 1, 0));
            row("plan row " + bad, NONE, x -> x.plan(0, bad, 0, 1, 0));
            row("plan column " + bad, NONE, x -> x.plan(0, 0, bad, 1, 0));
            row("plan head " + bad, BAD, x -> x.plan(0, 0, 0, 1, bad));
        }
        for (int page : Jobs.outside(1, 13)) {
            row("plan page " + page, BAD, x -> x.plan(0, 0, 0, page, 0));
            row("unplan " + page, NONE, x -> x.unplan(page));
        }
        row("unplan a page that is nowhere", 0, x -> x.unplan(1));
        for (int forme : new int[] {-2, 2, 9, 312, 319, 320, LEAST, GREATEST}) {
            row("see forme " + forme, BAD, x -> x.see(forme, 0, 0, 1));
        }
        for (int bad : Jobs.outside(0, 15)) {
            row("see row " + bad, BAD, x -> x.see(0, bad, 0, 1));
            row("see column " + bad, BAD, x -> x.see(0, 0, bad, 1));
        }
        for (int page : Jobs.outside(1, 128)) {
            row("see page " + page, BAD, x -> x.see(0, 0, 0, page));
            row("event pages " + page, BAD, x -> x.event(0, page));
        }
        for (int what : new int[] {-2, 4, LEAST, GREATEST}) {
            row("event what " + what, NONE, x -> x.event(what, 1));
        }
        for (int n : Jobs.outside(1, 4)) {
            row("event figure " + n, BAD, x -> x.event(3, n));
        }
        for (int n : Jobs.outside(0, 1)) {
            row("event gather " + n, BAD, x -> x.event(1, n));
            row("event turn " + n, BAD, x -> x.event(2, n));
        }
    }

    private static void refusalsOfTextsAndTapes() {
        for (int sign : Jobs.outside(0, 127)) {
            row("feed " + sign, BAD, x -> x.feed(sign));
        }
        for (int tape : Jobs.outside(0, 5)) {
            row("tape " + tape, NONE, x -> x.tape(tape, BYTES, 1));
            row("tape to nothing " + tape, NONE, x -> x.tape(tape, -1, 1));
            row("item of " + tape, NONE, x -> x.item(tape, 0, 1));
            row("peek " + tape, NO, x -> x.peek(tape, 0));
            row("shift from " + tape, NONE, x -> x.shift(tape, 0, 1, 0, 1));
            row("shift to " + tape, NONE, x -> x.shift(1, 0, tape, 0, 1));
            row("judge " + tape, NONE, x -> x.judge(0, tape, 0));
        }
        for (int sort : new int[] {-2, 5, LEAST, GREATEST}) {
            row("tape sort " + sort, BAD, x -> x.tape(1, sort, 1));
        }
        row("tape of 61", BAD, x -> x.tape(1, BYTES, 61));
        row("tape of the greatest", BAD, x -> x.tape(1, BYTES, GREATEST));
        row("tape of -1", SIZE, x -> x.tape(1, BYTES, -1));
        row("tape of the least", SIZE, x -> x.tape(1, BYTES, LEAST));
        row("item of nothing", NOTHING, x -> x.item(5, 0, 1));
        row("shift from nothing", NOTHING, x -> x.shift(5, 0, 1, 0, 1));
        row("shift to nothing", NOTHING, x -> x.shift(1, 0, 5, 0, 1));
        row("shift of unlike sorts", CAST, x -> x.shift(1, 0, 2, 0, 1));
        for (int bad : Jobs.outside(0, 2)) {
            row("item " + bad, PLACE, x -> x.item(1, bad, 1));
            row("peek " + bad, NO, x -> x.peek(1, bad));
        }
        for (int bad : Jobs.outside(0, 3)) {
            row("shift place " + bad, PLACE, x -> x.shift(1, bad, 1, 0, 0));
            row("shift other place " + bad, PLACE, x -> x.shift(1, 0, 1, bad, 0));
            row("shift n " + bad, PLACE, x -> x.shift(1, 0, 1, 0, bad));
        }
        row("shift of two from the last", PLACE, x -> x.shift(1, 2, 1, 0, 2));
        row("shift of two to the last", PLACE, x -> x.shift(1, 1, 1, 2, 2));
    }

    private static void twoReasons() {
        row("set: what, v", NONE, x -> x.set(5, -1));
        row("set: what -1, v", NONE, x -> x.set(-1, 1000));
        row("plan: forme, page", NONE, x -> x.plan(2, 0, 0, 0, 0));
        row("plan: row, page", NONE, x -> x.plan(0, 2, 0, 14, 0));
        row("plan: column, head", NONE, x -> x.plan(0, 0, -1, 1, 2));
        row("plan: all", NONE, x -> x.plan(-1, -1, -1, -1, -1));
        row("event: what, n", NONE, x -> x.event(4, -1));
        row("event: what -2, n", NONE, x -> x.event(-2, 1000));
        row("tape: tape, sort", NONE, x -> x.tape(6, 5, 1));
        row("tape: tape, n", NONE, x -> x.tape(-1, BYTES, 61));
        row("tape: tape, size", NONE, x -> x.tape(6, BYTES, -1));
        row("tape: sort, n", BAD, x -> x.tape(1, 5, 61));
        row("tape: sort, size", BAD, x -> x.tape(1, -2, -1));
        row("item: tape, place", NONE, x -> x.item(6, -1, 0));
        row("item: nothing, place", NOTHING, x -> x.item(5, -1, 0));
        row("item: nothing, a far place", NOTHING, x -> x.item(5, GREATEST, 0));
        row("shift: from, to nothing", NONE, x -> x.shift(6, 0, 5, 0, 0));
        row("shift: from nothing, to", NONE, x -> x.shift(5, 0, -1, 0, 0));
        row("shift: tape, place", NONE, x -> x.shift(-1, -1, 1, -1, -1));
        row("shift: nothing, place", NOTHING, x -> x.shift(5, -1, 1, -1, -1));
        row("shift: to nothing, place", NOTHING, x -> x.shift(1, -1, 5, -1, -1));
        row("shift: cast, place", CAST, x -> x.shift(1, -1, 2, -1, -1));
        row("shift: cast, n", CAST, x -> x.shift(3, 0, 4, 0, GREATEST));
        row("judge: forme, cast", NONE, x -> x.judge(2, 0, 0));
        row("judge: tape, place", NONE, x -> x.judge(0, 6, -1));
        row("judge: cast, place", CAST, x -> x.judge(0, 2, -1));
        row("judge: forme, tape", NONE, x -> x.judge(-1, -1, -1));
        row("run: both", NONE, x -> x.run(-1, -1));
        row("stands: both", NONE, x -> x.stands(0, 7));
        row("creep: both", NONE, x -> x.creep(17, 2));
        row("share: both", NO, x -> x.share(17, 2));
        row("planned: both", NONE, x -> x.planned(2, 3));
    }

    private static void whatIsFull() {
        row("waits", FULL, x -> x.waits(200));
        row("waits: forme, full", NONE, x -> x.waits(320));
        row("waits: waits already, full", STATE, x -> x.waits(191));
        row("plan", FULL, x -> x.plan(150, 0, 0, 1, 0));
        row("plan: forme, full", NONE, x -> x.plan(320, 0, 0, 1, 0));
        row("plan: page, full", BAD, x -> x.plan(150, 0, 0, 129, 0));
        row("plan: head, full", BAD, x -> x.plan(150, 0, 0, 1, 2));
        row("see", FULL, x -> x.see(0, 0, 0, 3));
        row("see: forme, full", BAD, x -> x.see(2, 0, 0, 3));
        row("see: page, full", BAD, x -> x.see(0, 0, 0, 0));
        row("event", FULL, x -> x.event(1, 1));
        row("event: what, full", NONE, x -> x.event(4, 1));
        row("event: n, full", BAD, x -> x.event(1, 2));
        row("feed", FULL, x -> x.feed('1'));
        row("feed: sign, full", BAD, x -> x.feed(128));
        row("undo", STATE, PressSheets::undo);
        row("set: pages as they are", 128, x -> x.set(0, 128));
        row("fold as it is", 1, x -> x.fold(1));
    }

    private static void whatIsNew() {
        row("undo", STATE, PressSheets::undo);
        row("press", 0, x -> x.press(99));
        row("clears", 0, x -> x.clears(0));
        row("unplan", 0, x -> x.unplan(4));
        row("read nothing", -10, PressSheets::read);
        row("see: none", 0, x -> x.see(-1, 0, 0, 0));
        row("event: none", 0, x -> x.event(-1, 0));
        row("tape: nothing", 1, x -> x.tape(0, -1, 0));
        row("item", NOTHING, x -> x.item(0, 0, 1));
        row("shift", NOTHING, x -> x.shift(0, 0, 0, 0, 0));
        row("judge", 100, x -> x.judge(0, 0, 0));
        row("line", NO_MORE, x -> x.line(0));
        row("printed", NO_MORE, x -> x.printed(0));
        row("planned", NONE, x -> x.planned(0, 0));
        row("proof", 1, x -> x.proof(0));
    }

    private static void whatIsAsked() {
        row("told", 13, x -> x.told(0));
        row("run", 1, x -> x.run(0, 2));
        row("stands", 521, x -> x.stands(1, 5));
        row("page", 3, x -> x.page(0, 0, 0));
        row("turned", 1, x -> x.turned(0, 3, 1));
        row("creep", 7, x -> x.creep(3, 0));
        row("creep times copies", 63, x -> x.creep(3, 1));
        row("share", 3, x -> x.share(3, 1));
        row("line", 10, x -> x.line(1));
        row("missing", 11, x -> x.missing(0));
        row("printed", 0, x -> x.printed(0));
        row("planned", 13, x -> x.planned(1, 1));
        row("proof", 1, x -> x.proof(1));
        row("fits", 1, x -> x.fits(0));
        row("after", 2, x -> x.after(0));
        row("judge", 100, x -> x.judge(0, 5, 0));
        row("judge a row", 0, x -> x.judge(0, 1, 0));
        row("count", 7, x -> x.count(2));
        row("peek", 3, x -> x.peek(2, 2));
        for (int far : new int[] {LEAST, -1, GREATEST}) {
            row("told " + far, NONE, x -> x.told(far));
            row("run " + far, NONE, x -> x.run(far, far));
            row("stands " + far, NONE, x -> x.stands(far, far));
            row("page " + far, NONE, x -> x.page(far, far, far));
            row("turned " + far, NONE, x -> x.turned(far, far, far));
            row("creep " + far, NONE, x -> x.creep(far, far));
            row("share " + far, NO, x -> x.share(far, far));
            row("line " + far, far < 0 ? NONE : NO_MORE, x -> x.line(far));
            row("missing " + far, NONE, x -> x.missing(far));
            row("printed " + far, far < 0 ? NONE : NO_MORE, x -> x.printed(far));
            row("planned " + far, NONE, x -> x.planned(far, far));
            row("proof " + far, far < 0 ? NONE : NO_MORE, x -> x.proof(far));
            row("fits " + far, NONE, x -> x.fits(far));
            row("after " + far, NONE, x -> x.after(far));
            row("judge " + far, NONE, x -> x.judge(far, far, far));
            row("count " + far, BAD, x -> x.count(far));
            row("peek " + far, NO, x -> x.peek(far, far));
        }
    }
}
