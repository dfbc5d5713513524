/** Pages placed on big sheets so that they come rightly when these are folded and gathered. */
public final class PressSheets {
    public static final int NONE = -1, BAD = -2, STATE = -3, FULL = -4, OVER = -15;
    public static final long NO = Long.MIN_VALUE;

    private static final int NO_MORE = -5;
    private static final int NO_FAULT = -1;
    private static final int NOTHING = -11, CAST = -12, PLACE = -13, SIZE = -14;

    private static final int FRONT = 0, BACK = 1;
    private static final int PAGES = 0, GATHER = 1, TURN = 2, THICK = 3, COPIES = 4;
    private static final int MORE_FIGURES = 3;
    private static final int MOST_PAGES = 128, MOST_FIGURES = 4, MOST_SEEN_FORME = 319, MOST_SEEN_PLACE = 15;

    private final State now = new State();
    private final State kept = new State();
    private boolean imageTaken;
    // What is only asked is tried on this one, so that nothing of the job changes.
    private final Job trial = new Job();
    private final Text text = new Text();
    private final Tape[] tapes = {
        new Tape(), new Tape(), new Tape(), new Tape(), new Tape(), new Tape()
    };

    public PressSheets() {
    }

    // ---- the job

    public int fold(int figures) {
        return now.refold(figures);
    }

    public int set(int what, int v) {
        return now.settle(what, v);
    }

    public int told(int what) {
        Job job = now.job;
        switch (what) {
            case PAGES:
            case GATHER:
            case TURN:
            case THICK:
            case COPIES:
                return job.value(what);
            case 5:
                return job.word();
            case 6:
                return job.wide;
            case 7:
                return job.high;
            case 8:
                return job.sheets();
            case 9:
                return job.empties();
            default:
                return NONE;
        }
    }

    // ---- folds

    public int run(int i, int what) {
        Job job = now.job;
        if (i < 0 || i >= job.sides()) {
            return NONE;
        }
        Leaf leaf = job.leaf;
        leaf.layOpen(job, i / 2);
        switch (what) {
            case 0:
                return leaf.row;
            case 1:
                return leaf.column;
            case 2:
                return leaf.sideOf(i);
            case 3:
                return leaf.head;
            default:
                return NONE;
        }
    }

    public int stands(int page, int what) {
        Job job = now.job;
        if (!job.hasPlaceOf(page)) {
            return NONE;
        }
        Spot spot = job.spot;
        spot.find(job, page);
        switch (what) {
            case 0:
                return spot.sheet;
            case 1:
                return spot.side;
            case 2:
                return spot.row;
            case 3:
                return spot.column;
            case 4:
                return spot.head;
            case 5:
                return spot.cell();
            case 6:
                return job.pageInRun(spot.sheet, spot.number ^ 1);
            default:
                return NONE;
        }
    }

    public int page(int forme, int row, int column) {
        Job job = now.job;
        return job.hasCell(forme, row, column) ? job.pageSeen(forme / 10, forme % 10, row, column) : NONE;
    }

    public int turned(int sheet, int row, int column) {
        Job job = now.job;
        if (sheet < 0 || sheet >= job.sheets()) {
            return NONE;
        }
        boolean headways = job.turn == 1;
        if (headways && row >= job.high) {
            return page(10 * sheet + BACK, row - job.high, column);
        }
        if (!headways && column >= job.wide) {
            return page(10 * sheet + BACK, row, column - job.wide);
        }
        return page(10 * sheet + FRONT, row, column);
    }

    public int creep(int page, int what) {
        Job job = now.job;
        if (!job.hasPlaceOf(page) || what < 0 || what > 1) {
            return NONE;
        }
        int creep = job.creepOf(page);
        if (what == 0) {
            return creep;
        }
        long ofAll = (long) creep * job.copies;
        return ofAll == (int) ofAll ? (int) ofAll : OVER;
    }

    public long share(int page, int part) {
        Job job = now.job;
        if (!job.hasPlaceOf(page) || part < 0 || part > 1) {
            return NO;
        }
        int greatest = job.greatestCreep();
        if (greatest == 0) {
            return part;
        }
        int creep = job.creepOf(page);
        int common = commonDivisor(greatest, creep);
        if (common == 0) {
            return NO;
        }
        return (part == 0 ? creep : greatest) / common;
    }

    // ---- the press

    public int waits(int forme) {
        return now.queue(forme);
    }

    public int press(int n) {
        return n < 1 || n > 99 ? BAD : now.press.strokes(n);
    }

    public int clears(int sheet) {
        if (sheet < 0 || sheet >= now.job.sheets()) {
            return NONE;
        }
        return now.press.dropSheet(sheet);
    }

    public int line(int k) {
        return kth(now.press.waiting, k);
    }

    public int missing(int what) {
        if (what < 0 || what > 2) {
            return NONE;
        }
        Job job = now.job;
        int many = 0, first = NO_MORE, last = NO_MORE;
        for (int page = 1; page <= job.pages; page++) {
            if (!now.hasPrinted(page)) {
                many++;
                first = first == NO_MORE ? page : first;
                last = page;
            }
        }
        return what == 0 ? many : what == 1 ? first : last;
    }

    public int printed(int k) {
        return kth(now.press.done, k);
    }

    // ---- plans

    public int plan(int forme, int row, int column, int page, int head) {
        Job job = now.job;
        if (!job.hasCell(forme, row, column)) {
            return NONE;
        }
        if (page < 1 || page > job.pages || head < 0 || head > 1) {
            return BAD;
        }
        Plan plan = now.plan;
        boolean isTold = plan.tell(cellOf(forme / 10, forme % 10, row, column), page, head);
        return isTold ? plan.cells.size : FULL;
    }

    public int unplan(int page) {
        return page < 1 || page > now.job.pages ? NONE : now.plan.forget(page);
    }

    public int planned(int k, int what) {
        Plan plan = now.plan;
        if (!plan.cells.has(k)) {
            return NONE;
        }
        switch (what) {
            case 0:
                return plan.cells.get(k);
            case 1:
                return plan.pages.get(k);
            case 2:
                return plan.heads.get(k);
            default:
                return NONE;
        }
    }

    public int plans() {
        now.plan.tellAll(now.job);
        return now.plan.cells.size;
    }

    public int proof(int k) {
        if (k < 0) {
            return NONE;
        }
        now.plan.prove(now.job);
        return kth(now.plan.proven, k);
    }

    // ---- seen, events

    public int see(int forme, int row, int column, int page) {
        if (forme == -1) {
            now.seenCells.clear();
            now.seenPages.clear();
            return 0;
        }
        if (forme < 0 || forme > MOST_SEEN_FORME || forme % 10 > BACK || page < 1 || page > MOST_PAGES) {
            return BAD;
        }
        if (row < 0 || row > MOST_SEEN_PLACE || column < 0 || column > MOST_SEEN_PLACE) {
            return BAD;
        }
        if (!now.seenCells.add(cellOf(forme / 10, forme % 10, row, column))) {
            return FULL;
        }
        now.seenPages.add(page);
        return now.seenCells.size;
    }

    public int fits(int what) {
        if (what < 0 || what > 1) {
            return NONE;
        }
        trial.copy(now.job);
        int figures = trial.figures;
        int folds = 1 << 2 * figures;
        int many = 0, least = NO_MORE;
        for (int code = 0; code < folds; code++) {
            trial.foldBy(figures, code);
            if (now.allSeenStand(trial)) {
                many++;
                least = least == NO_MORE ? trial.word() : least;
            }
        }
        return what == 0 ? many : least;
    }

    public int event(int what, int n) {
        if (what == -1) {
            now.eventKinds.clear();
            now.eventNumbers.clear();
            return 0;
        }
        if (what < 0 || what > MORE_FIGURES) {
            return NONE;
        }
        boolean allowed = what == MORE_FIGURES ? n >= 1 && n <= 4 : Job.allows(what, n);
        if (!allowed) {
            return BAD;
        }
        if (!now.eventKinds.add(what)) {
            return FULL;
        }
        now.eventNumbers.add(n);
        return now.eventKinds.size;
    }

    public int after(int what) {
        if (what < 0 || what > 2) {
            return NONE;
        }
        trial.copy(now.job);
        for (int k = 0; k < now.eventKinds.size; k++) {
            trial.undergo(now.eventKinds.get(k), now.eventNumbers.get(k));
        }
        if (what == 0) {
            return trial.sheets();
        }
        if (what == 2) {
            return trial.empties();
        }
        trial.spot.find(trial, 1);
        return trial.spot.cell();
    }

    // ---- texts, judging, the image, tapes

    public int feed(int sign) {
        if (sign < 0 || sign > 127) {
            return BAD;
        }
        return text.signs.add(sign) ? text.signs.size : FULL;
    }

    public int read() {
        int fault = text.parse();
        text.signs.clear();
        if (fault != NO_FAULT) {
            return -10 - fault;
        }
        int many = 0;
        for (int k = 0; k < text.kinds.size; k++) {
            if (now.follows(text.kinds.get(k), text.firsts.get(k), text.seconds.get(k))) {
                many++;
            }
        }
        return many;
    }

    public int judge(int forme, int tape, int i) {
        Job job = now.job;
        Tape shorts = tapeAt(tape);
        if (!job.hasForme(forme) || shorts == null) {
            return NONE;
        }
        if (shorts.sort != Tape.NO_SORT && shorts.sort != Tape.SHORTS) {
            return CAST;
        }
        int looked = 0;
        for (int row = 0; row < job.high; row++) {
            for (int column = 0; column < job.wide; column++) {
                // i is looked at first: it may be so great that adding to it wraps around
                if (!shorts.has(i) || !shorts.has(i + looked)) {
                    return 100 + looked;
                }
                int page = job.pageSeen(forme / 10, forme % 10, row, column);
                if (shorts.get(i + looked) != (page > job.pages ? 0 : page)) {
                    return looked;
                }
                looked++;
            }
        }
        return NO_MORE;
    }

    public int image() {
        kept.copy(now);
        imageTaken = true;
        return now.job.sheets();
    }

    public int undo() {
        if (!imageTaken) {
            return STATE;
        }
        now.copy(kept);
        return now.job.sheets();
    }

    public int count(int what) {
        switch (what) {
            case 0:
                return now.seenCells.size;
            case 1:
                return now.eventKinds.size;
            case 2:
                return text.signs.size;
            case 3:
                return now.press.waiting.size;
            case 4:
                return now.press.done.size;
            case 5:
                return now.plan.cells.size;
            default:
                return BAD;
        }
    }

    public int tape(int tape, int sort, int n) {
        Tape row = tapeAt(tape);
        if (row == null) {
            return NONE;
        }
        if (sort == Tape.NO_SORT) {
            row.become(Tape.NO_SORT, 0);
            return 1;
        }
        if (sort < 0 || sort > Tape.BOOLEANS || n > Tape.MOST) {
            return BAD;
        }
        if (n < 0) {
            return SIZE;
        }
        row.become(sort, n);
        return 1;
    }

    public int item(int tape, int i, long v) {
        Tape row = tapeAt(tape);
        if (row == null) {
            return NONE;
        }
        if (row.sort == Tape.NO_SORT) {
            return NOTHING;
        }
        return row.put(i, v) ? 1 : PLACE;
    }

    public long peek(int tape, int i) {
        Tape row = tapeAt(tape);
        return row == null ? NO : row.get(i);
    }

    public int shift(int tape, int i, int other, int j, int n) {
        Tape from = tapeAt(tape), to = tapeAt(other);
        if (from == null || to == null) {
            return NONE;
        }
        if (from.sort == Tape.NO_SORT || to.sort == Tape.NO_SORT) {
            return NOTHING;
        }
        if (from.sort != to.sort) {
            return CAST;
        }
        if (!from.hasStretch(i, n) || !to.hasStretch(j, n)) {
            return PLACE;
        }
        System.arraycopy(from.items, i, to.items, j, n);
        return n;
    }

    // ---- what several calls share

    private Tape tapeAt(int tape) {
        return tape < 0 || tape >= tapes.length ? null : tapes[tape];
    }

    private static int kth(Row row, int k) {
        if (k < 0) {
            return NONE;
        }
        return row.has(k) ? row.get(k) : NO_MORE;
    }

    private static int cellOf(int sheet, int side, int row, int column) {
        return 1000 * sheet + 500 * side + 20 * row + column;
    }

    private static int commonDivisor(int a, int b) {
        // Euclid's way on two ints ends within 47 steps.
        for (int step = 0; step < 100 && b != 0; step++) {
            int rest = a % b;
            a = b;
            b = rest;
        }
        return a;
    }

    /** A row of ints that grows up to its bound; no place of it is used without a look. */
    private static final class Row {
        final int[] items;
        int size;

        Row(int most) {
            items = new int[most > 0 ? most : 0];
        }

        boolean has(int i) {
            return i >= 0 && i < size && i < items.length;
        }

        int get(int i) {
            return has(i) ? items[i] : NO_MORE;
        }

        void put(int i, int v) {
            if (has(i)) {
                items[i] = v;
            }
        }

        boolean add(int v) {
            if (size < 0 || size >= items.length) {
                return false;
            }
            items[size] = v;
            size++;
            return true;
        }

        void clear() {
            size = 0;
        }

        int find(int v, int from) {
            for (int i = Math.max(from, 0); i < size && i < items.length; i++) {
                if (items[i] == v) {
                    return i;
                }
            }
            return -1;
        }

        void drop(int i) {
            if (!has(i)) {
                return;
            }
            for (int k = i + 1; k < size; k++) {
                put(k - 1, get(k));
            }
            size--;
        }

        void copy(Row other) {
            clear();
            for (int i = 0; i < other.size; i++) {
                add(other.get(i));
            }
        }
    }

    /** The fold and the numbers of a job, and which page comes where by them. */
    private static final class Job {
        // The fold's figures, each less 1, as digits to the base 4: so all folds of one length are numbers in a row.
        int figures, code;
        int wide, high;
        int pages = 4, gather, turn, thick = 100, copies = 1;
        final Leaf leaf = new Leaf();
        final Spot spot = new Spot();

        Job() {
            foldBy(1, 0);
        }

        void copy(Job other) {
            foldBy(other.figures, other.code);
            pages = other.pages;
            gather = other.gather;
            turn = other.turn;
            thick = other.thick;
            copies = other.copies;
        }

        void foldBy(int newFigures, int newCode) {
            figures = newFigures;
            code = newCode;
            wide = 1;
            high = 1;
            for (int k = 0; k < figures; k++) {
                if (isAcross(figure(k))) {
                    wide *= 2;
                } else {
                    high *= 2;
                }
            }
        }

        void foldByWord(int word) {
            int count = figuresOf(word);
            int newCode = 0;
            int rest = word;
            for (int k = 0; k < count; k++) {
                newCode += (rest % 10 - 1) << 2 * k;
                rest /= 10;
            }
            foldBy(count, newCode);
        }

        /** How many figures a fold told by a number has; 0, if it is none. */
        static int figuresOf(int word) {
            int count = 0;
            int rest = word;
            while (rest > 0 && count <= MOST_FIGURES) {
                int figure = rest % 10;
                if (figure < 1 || figure > 4) {
                    return 0;
                }
                count++;
                rest /= 10;
            }
            return count <= MOST_FIGURES ? count : 0;
        }

        static boolean isAcross(int figure) {
            return figure <= 2;
        }

        int figure(int k) {
            return ((code >> 2 * (figures - 1 - k)) & 3) + 1;
        }

        int word() {
            int word = 0;
            for (int k = 0; k < figures; k++) {
                word = 10 * word + figure(k);
            }
            return word;
        }

        static boolean allows(int what, int v) {
            switch (what) {
                case PAGES:
                    return v >= 1 && v <= MOST_PAGES;
                case GATHER:
                case TURN:
                    return v == 0 || v == 1;
                case THICK:
                    return v >= 0 && v <= 1000000;
                case COPIES:
                    return v >= 1 && v <= 100000;
                default:
                    return false;
            }
        }

        int value(int what) {
            switch (what) {
                case PAGES:
                    return pages;
                case GATHER:
                    return gather;
                case TURN:
                    return turn;
                case THICK:
                    return thick;
                default:
                    return copies;
            }
        }

        void putValue(int what, int v) {
            switch (what) {
                case PAGES:
                    pages = v;
                    break;
                case GATHER:
                    gather = v;
                    break;
                case TURN:
                    turn = v;
                    break;
                case THICK:
                    thick = v;
                    break;
                default:
                    copies = v;
                    break;
            }
        }

        void undergo(int kind, int n) {
            if (kind != MORE_FIGURES) {
                putValue(kind, n);
            } else if (figures < MOST_FIGURES) {
                foldBy(figures + 1, 4 * code + n - 1);
            }
        }

        // Each figure doubles the leaves: they and the sides are powers of 2, so shifts and masks do for divisions.

        int leaves() {
            return 1 << figures;
        }

        int sides() {
            return 2 << figures;
        }

        int sheets() {
            return ((pages - 1) >> (figures + 1)) + 1;
        }

        /** How many pages there is place for, the empty ones too. */
        int places() {
            return sheets() * sides();
        }

        int empties() {
            return places() - pages;
        }

        boolean hasPlaceOf(int page) {
            return page >= 1 && page <= places();
        }

        boolean hasForme(int forme) {
            return forme >= 0 && forme % 10 <= BACK && forme / 10 < sheets();
        }

        boolean hasCell(int forme, int row, int column) {
            return hasForme(forme) && row >= 0 && row < high && column >= 0 && column < wide;
        }

        int sheetOf(int page) {
            if (gather == 0) {
                return (page - 1) >> (figures + 1);
            }
            return Math.min(page - 1, places() - page) >> figures;
        }

        /** The number of a page in the run of its sheet. */
        int numberOf(int page) {
            if (gather == 0) {
                return (page - 1) & (sides() - 1);
            }
            int before = page - 1, behind = places() - page;
            int past = Math.min(before, behind) & (leaves() - 1);
            return before < behind ? past : sides() - 1 - past;
        }

        int pageInRun(int sheet, int number) {
            if (gather == 0) {
                return sheet * sides() + number + 1;
            }
            if (number < leaves()) {
                return sheet * leaves() + number + 1;
            }
            return places() - sheet * leaves() - (sides() - 1 - number);
        }

        // The two below lead from a cell as fronts lie to the cell as seen, and from that one back alike.

        int mirroredRow(int side, int row) {
            return side == BACK && turn == 1 ? high - 1 - row : row;
        }

        int mirroredColumn(int side, int column) {
            return side == BACK && turn == 0 ? wide - 1 - column : column;
        }

        int pageSeen(int sheet, int side, int row, int column) {
            leaf.layFolded(this, mirroredRow(side, row), mirroredColumn(side, column));
            return pageInRun(sheet, 2 * leaf.depth + (side == leaf.above ? 0 : 1));
        }

        int creepOf(int page) {
            int before = gather == 0 ? numberOf(page) : page - 1;
            int behind = (gather == 0 ? sides() : places()) - 1 - before;
            return thick * (Math.min(before, behind) / 2);
        }

        int greatestCreep() {
            int greatest = 0;
            for (int page = 1; page <= pages; page++) {
                greatest = Math.max(greatest, creepOf(page));
            }
            return greatest;
        }
    }

    /** One leaf of a sheet: its cell as fronts lie, and how it lies when the sheet is folded. */
    private static final class Leaf {
        int row, column;
        int depth, above, head;

        int sideOf(int number) {
            return number % 2 == 0 ? above : 1 - above;
        }

        /** Follows the leaf of a cell through the folds. */
        void layFolded(Job job, int fromRow, int fromColumn) {
            row = fromRow;
            column = fromColumn;
            depth = 0;
            above = FRONT;
            head = 0;
            int r = row, c = column, width = job.wide, height = job.high, pile = 1;
            for (int k = 0; k < job.figures; k++) {
                int figure = job.figure(k);
                boolean across = Job.isAcross(figure), firstHalfMoves = figure % 2 == 1;
                int half = (across ? width : height) / 2;
                int at = across ? c : r;
                boolean moves = (at < half) == firstHalfMoves;
                at = moves ? 2 * half - 1 - at : at;
                at = firstHalfMoves ? at - half : at;
                depth = moves ? pile - 1 - depth : pile + depth;
                pile *= 2;
                turnOver(moves, across);
                if (across) {
                    c = at;
                    width = half;
                } else {
                    r = at;
                    height = half;
                }
            }
        }

        /** Follows the leaf at a depth of the folded pile back through the folds. */
        void layOpen(Job job, int fromDepth) {
            row = 0;
            column = 0;
            depth = fromDepth;
            above = FRONT;
            head = 0;
            int d = depth, width = 1, height = 1, pile = job.leaves();
            for (int k = job.figures - 1; k >= 0; k--) {
                int figure = job.figure(k);
                boolean across = Job.isAcross(figure), firstHalfMoves = figure % 2 == 1;
                pile /= 2;
                boolean moves = d < pile;
                d = moves ? pile - 1 - d : d - pile;
                int half = across ? width : height;
                int at = across ? column : row;
                at = firstHalfMoves ? at + half : at;
                at = moves ? 2 * half - 1 - at : at;
                turnOver(moves, across);
                if (across) {
                    column = at;
                    width = 2 * half;
                } else {
                    row = at;
                    height = 2 * half;
                }
            }
        }

        private void turnOver(boolean moves, boolean across) {
            above = moves ? 1 - above : above;
            head = moves && !across ? 1 - head : head;
        }
    }

    /** Where a page stands, row and column as seen. */
    private static final class Spot {
        int sheet, number, side, row, column, head;

        void find(Job job, int page) {
            Leaf leaf = job.leaf;
            sheet = job.sheetOf(page);
            number = job.numberOf(page);
            leaf.layOpen(job, number / 2);
            side = leaf.sideOf(number);
            row = job.mirroredRow(side, leaf.row);
            column = job.mirroredColumn(side, leaf.column);
            head = side == BACK && job.turn == 1 ? 1 - leaf.head : leaf.head;
        }

        int forme() {
            return 10 * sheet + side;
        }

        int cell() {
            return cellOf(sheet, side, row, column);
        }
    }

    /** The line of formes that wait, and those that are printed. */
    private static final class Press {
        final Row waiting = new Row(40);
        // 128 pages stand on 64 formes at most
        final Row done = new Row(64);

        void clear() {
            waiting.clear();
            done.clear();
        }

        void copy(Press other) {
            waiting.copy(other.waiting);
            done.copy(other.done);
        }

        boolean holds(int forme) {
            return waiting.find(forme, 0) >= 0 || done.find(forme, 0) >= 0;
        }

        int strokes(int n) {
            int before = done.size;
            for (int k = 0; k < n && waiting.size > 0; k++) {
                int forme = waiting.get(0);
                waiting.drop(0);
                boolean frontToCome = forme % 10 == BACK && done.find(forme - BACK, 0) < 0;
                if (frontToCome && waiting.size > 0) {
                    waiting.add(forme);
                } else {
                    done.add(forme);
                }
            }
            return done.size - before;
        }

        int dropSheet(int sheet) {
            int before = waiting.size;
            for (int k = before - 1; k >= 0; k--) {
                if (waiting.get(k) / 10 == sheet) {
                    waiting.drop(k);
                }
            }
            return before - waiting.size;
        }
    }

    /** The plan by hand: cells in the order in which they came, each with a page and a head. */
    private static final class Plan {
        private static final int MOST = 60;
        final Row cells = new Row(MOST), pages = new Row(MOST), heads = new Row(MOST);
        // the fault of the proof, then its causes
        final Row proven = new Row(4);

        void clear() {
            cells.clear();
            pages.clear();
            heads.clear();
        }

        void copy(Plan other) {
            cells.copy(other.cells);
            pages.copy(other.pages);
            heads.copy(other.heads);
        }

        boolean tell(int cell, int page, int head) {
            int k = cells.find(cell, 0);
            if (k >= 0) {
                pages.put(k, page);
                heads.put(k, head);
                return true;
            }
            if (!cells.add(cell)) {
                return false;
            }
            pages.add(page);
            heads.add(head);
            return true;
        }

        void tellAll(Job job) {
            for (int sheet = 0; sheet < job.sheets(); sheet++) {
                for (int side = FRONT; side <= BACK; side++) {
                    tellForme(job, sheet, side);
                }
            }
        }

        private void tellForme(Job job, int sheet, int side) {
            for (int row = 0; row < job.high; row++) {
                for (int column = 0; column < job.wide; column++) {
                    int page = job.pageSeen(sheet, side, row, column);
                    if (page <= job.pages) {
                        job.spot.find(job, page);
                        tell(job.spot.cell(), page, job.spot.head);
                    }
                }
            }
        }

        int forget(int page) {
            int before = cells.size;
            for (int k = before - 1; k >= 0; k--) {
                if (pages.get(k) == page) {
                    cells.drop(k);
                    pages.drop(k);
                    heads.drop(k);
                }
            }
            return before - cells.size;
        }

        void prove(Job job) {
            proven.clear();
            for (int page = 1; page <= job.pages; page++) {
                if (isFaulty(job, page)) {
                    return;
                }
            }
            proven.add(0);
        }

        private boolean isFaulty(Job job, int page) {
            int first = pages.find(page, 0);
            if (first < 0) {
                proven.add(1);
                proven.add(page);
                return true;
            }
            int cell = cells.get(first);
            int second = pages.find(page, first + 1);
            if (second >= 0) {
                return faulty(2, page, cell, cells.get(second));
            }
            Spot spot = job.spot;
            spot.find(job, page);
            if (cell != spot.cell()) {
                return faulty(3, page, cell, spot.cell());
            }
            return heads.get(first) != spot.head && faulty(4, page, cell, spot.head);
        }

        private boolean faulty(int fault, int page, int cell, int due) {
            proven.add(fault);
            proven.add(page);
            proven.add(cell);
            proven.add(due);
            return true;
        }
    }

    /** All that an image holds. */
    private static final class State {
        final Job job = new Job();
        final Press press = new Press();
        final Plan plan = new Plan();
        final Row seenCells = new Row(5), seenPages = new Row(5);
        final Row eventKinds = new Row(8), eventNumbers = new Row(8);

        void copy(State other) {
            job.copy(other.job);
            press.copy(other.press);
            plan.copy(other.plan);
            seenCells.copy(other.seenCells);
            seenPages.copy(other.seenPages);
            eventKinds.copy(other.eventKinds);
            eventNumbers.copy(other.eventNumbers);
        }

        private void pagesMove() {
            press.clear();
            plan.clear();
        }

        int refold(int word) {
            if (Job.figuresOf(word) == 0) {
                return BAD;
            }
            int was = job.word();
            if (word != was) {
                job.foldByWord(word);
                pagesMove();
            }
            return was;
        }

        int settle(int what, int v) {
            if (what < PAGES || what > COPIES) {
                return NONE;
            }
            if (!Job.allows(what, v)) {
                return BAD;
            }
            int was = job.value(what);
            job.putValue(what, v);
            if (what <= TURN && v != was) {
                pagesMove();
            }
            return was;
        }

        int queue(int forme) {
            if (!job.hasForme(forme)) {
                return NONE;
            }
            if (press.holds(forme)) {
                return STATE;
            }
            return press.waiting.add(forme) ? press.waiting.size : FULL;
        }

        boolean hasPrinted(int page) {
            job.spot.find(job, page);
            return press.done.find(job.spot.forme(), 0) >= 0;
        }

        boolean allSeenStand(Job trial) {
            for (int k = 0; k < seenCells.size; k++) {
                int cell = seenCells.get(k);
                int sheet = cell / 1000, side = cell / 500 % 2, row = cell % 500 / 20, column = cell % 20;
                if (!trial.hasCell(10 * sheet + side, row, column)) {
                    return false;
                }
                if (trial.pageSeen(sheet, side, row, column) != seenPages.get(k)) {
                    return false;
                }
            }
            return true;
        }

        /** Does a clause: whether it was done, not refused. */
        boolean follows(int kind, int first, int second) {
            switch (kind) {
                case 'f':
                    return refold(first) >= 0;
                case 'n':
                    return settle(PAGES, first) >= 0;
                case 'g':
                    return settle(GATHER, first) >= 0;
                case 't':
                    return settle(TURN, first) >= 0;
                case 'c':
                    // looked at ahead, so that a bad one of the two leaves the other one alone
                    if (!Job.allows(THICK, first) || !Job.allows(COPIES, second)) {
                        return false;
                    }
                    settle(THICK, first);
                    settle(COPIES, second);
                    return true;
                case 'w':
                    return queue(first) >= 0;
                default:
                    return false;
            }
        }
    }

    /** The text that was fed, and the clauses that are read from it. */
    private static final class Text {
        private static final int MOST_CLAUSES = 10, MOST_DIGITS = 7;
        final Row signs = new Row(100);
        final Row kinds = new Row(MOST_CLAUSES), firsts = new Row(MOST_CLAUSES), seconds = new Row(MOST_CLAUSES);
        private int at;

        /** Fills the rows of clauses: the place of the fault. */
        int parse() {
            at = 0;
            kinds.clear();
            firsts.clear();
            seconds.clear();
            for (int n = 1; n <= MOST_CLAUSES; n++) {
                if (!isClause()) {
                    return at;
                }
                if (at >= signs.size) {
                    return NO_FAULT;
                }
                if (n == MOST_CLAUSES || !isNext(';')) {
                    return at;
                }
            }
            return at;
        }

        private boolean isClause() {
            int kind = signs.get(at);
            boolean hasTwo = isNext('c');
            if (!hasTwo && !isNext('f') && !isNext('n') && !isNext('g') && !isNext('t') && !isNext('w')) {
                return false;
            }
            int first = kind == 'f' ? number('1', '4', MOST_FIGURES) : number('0', '9', MOST_DIGITS);
            if (first < 0 || (hasTwo && !isNext(','))) {
                return false;
            }
            int second = hasTwo ? number('0', '9', MOST_DIGITS) : 0;
            if (second < 0) {
                return false;
            }
            kinds.add(kind);
            firsts.add(first);
            seconds.add(second);
            return true;
        }

        private boolean isNext(int sign) {
            if (signs.get(at) != sign) {
                return false;
            }
            at++;
            return true;
        }

        /** The number that comes next; -1, if there is none. */
        private int number(int least, int greatest, int most) {
            int value = 0;
            int from = at;
            while (at - from < most && signs.get(at) >= least && signs.get(at) <= greatest) {
                value = 10 * value + signs.get(at) - '0';
                at++;
            }
            return at == from ? -1 : value;
        }
    }

    /** A row of items of one sort, or nothing. */
    private static final class Tape {
        static final int MOST = 60;
        static final int NO_SORT = -1, BYTES = 0, SHORTS = 1, INTS = 2, BOOLEANS = 4;
        int sort = NO_SORT, size;
        final long[] items = new long[MOST];

        void become(int newSort, int newSize) {
            sort = newSort;
            size = newSize;
            for (int i = 0; i < items.length; i++) {
                items[i] = 0;
            }
        }

        boolean has(int i) {
            return i >= 0 && i < size && i < items.length;
        }

        boolean hasStretch(int i, int n) {
            return i >= 0 && n >= 0 && size <= items.length && n <= size && i <= size - n;
        }

        long get(int i) {
            return has(i) ? items[i] : NO;
        }

        boolean put(int i, long v) {
            if (!has(i)) {
                return false;
            }
            items[i] = cut(v);
            return true;
        }

        private long cut(long v) {
            switch (sort) {
                case BYTES:
                    return (byte) v;
                case SHORTS:
                    return (short) v;
                case INTS:
                    return (int) v;
                case BOOLEANS:
                    return v != 0 ? 1 : 0;
                default:
                    return v;
            }
        }
    }
}
