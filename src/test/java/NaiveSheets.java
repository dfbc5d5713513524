import java.util.ArrayList;
import java.util.Collections;
import java.util.HashMap;
import java.util.LinkedHashMap;
import java.util.List;
import java.util.Map;
import java.util.TreeSet;
import java.util.regex.Matcher;
import java.util.regex.Pattern;

/**
 * The document done word by word: piles that are really turned over, tables that are looked through.
 * Nothing of it is shared with the class, so that the same slip is unlikely in both.
 */
final class NaiveSheets {
    private static final int NONE = -1, BAD = -2, STATE = -3, FULL = -4, OVER = -15, NO_MORE = -5;
    private static final long NO = Long.MIN_VALUE;
    private static final String CLAUSE = "(?:f[1-4]{1,4}|[ngtw][0-9]{1,7}|c[0-9]{1,7},[0-9]{1,7})";
    private static final Pattern JOB = Pattern.compile(CLAUSE + "(?:;" + CLAUSE + "){0,9}");
    private static final Map<String, List<int[]>> RUNS = new HashMap<>();

    private Kept now = new Kept();
    private Kept image;
    private String text = "";
    private final Object[] sorts = new Object[6];
    private final List<List<Long>> tapes = new ArrayList<>();
    private Table table;
    private String tableOf = "";

    /** What an image holds. */
    private static final class Kept {
        String fold = "1";
        int[] job = {4, 0, 0, 100, 1};
        List<Integer> line = new ArrayList<>(), printed = new ArrayList<>();
        Map<Integer, int[]> plan = new LinkedHashMap<>();
        List<int[]> seen = new ArrayList<>(), events = new ArrayList<>();

        Kept twin() {
            Kept k = new Kept();
            k.fold = fold;
            k.job = job.clone();
            k.line.addAll(line);
            k.printed.addAll(printed);
            plan.forEach((cell, told) -> k.plan.put(cell, told.clone()));
            k.seen.addAll(seen);
            k.events.addAll(events);
            return k;
        }
    }

    /** Where all pages stand: for each page sheet, side, row, column (as seen), head, the page behind it. */
    private static final class Table {
        int wide, high, sheets, places;
        final Map<Integer, int[]> byPage = new HashMap<>();
        final Map<Integer, Integer> byCell = new HashMap<>();
    }

    NaiveSheets() {
        for (int k = 0; k < 6; k++) {
            tapes.add(null);
        }
    }

    private static int ways(String fold, String figures) {
        int size = 1;
        for (char figure : fold.toCharArray()) {
            size *= figures.indexOf(figure) >= 0 ? 2 : 1;
        }
        return size;
    }

    /** The run of a fold: row, column, side, on its head. */
    static List<int[]> runOf(String fold) {
        return RUNS.computeIfAbsent(fold, NaiveSheets::folded);
    }

    private static List<int[]> folded(String fold) {
        int wide = ways(fold, "12"), high = ways(fold, "34");
        Map<String, List<int[]>> piles = new HashMap<>();
        for (int row = 0; row < high; row++) {
            for (int column = 0; column < wide; column++) {
                // row, column, the side above, turned by 3 or 4
                piles.put(row + "," + column, new ArrayList<>(List.of(new int[] {row, column, 0, 0})));
            }
        }
        int left = 0, right = wide - 1, top = 0, bottom = high - 1;
        for (char figure : fold.toCharArray()) {
            int fromLeft = left, fromRight = right, fromTop = top, fromBottom = bottom;
            int halfWide = (right - left + 1) / 2, halfHigh = (bottom - top + 1) / 2;
            if (figure == '1') {
                left += halfWide;
                fromRight = left - 1;
            } else if (figure == '2') {
                right -= halfWide;
                fromLeft = right + 1;
            } else if (figure == '3') {
                top += halfHigh;
                fromBottom = top - 1;
            } else {
                bottom -= halfHigh;
                fromTop = bottom + 1;
            }
            boolean across = figure <= '2';
            for (int row = fromTop; row <= fromBottom; row++) {
                for (int column = fromLeft; column <= fromRight; column++) {
                    List<int[]> pile = piles.remove(row + "," + column);
                    Collections.reverse(pile);
                    for (int[] leaf : pile) {
                        leaf[2] = 1 - leaf[2];
                        leaf[3] += across ? 0 : 1;
                    }
                    // the mirror is between the half that stays and the one that moves
                    int otherColumn = across ? (figure == '1' ? 2 * left - 1 : 2 * right + 1) - column : column;
                    int otherRow = across ? row : (figure == '3' ? 2 * top - 1 : 2 * bottom + 1) - row;
                    piles.get(otherRow + "," + otherColumn).addAll(0, pile);
                }
            }
        }
        List<int[]> run = new ArrayList<>();
        for (int[] leaf : piles.values().iterator().next()) {
            run.add(new int[] {leaf[0], leaf[1], leaf[2], leaf[3] % 2});
            run.add(new int[] {leaf[0], leaf[1], 1 - leaf[2], leaf[3] % 2});
        }
        return run;
    }

    private static int cell(int sheet, int side, int row, int column) {
        return sheet * 1000 + side * 500 + row * 20 + column;
    }

    private static Table tableFor(String fold, int pages, int gather, int turn) {
        Table t = new Table();
        t.wide = ways(fold, "12");
        t.high = ways(fold, "34");
        List<int[]> run = runOf(fold);
        int sides = run.size();
        while (t.sheets * sides < pages) {
            t.sheets++;
        }
        t.places = t.sheets * sides;
        for (int sheet = 0; sheet < t.sheets; sheet++) {
            int[] page = new int[sides];
            for (int i = 0; i < sides; i++) {
                page[i] = gather == 0 ? sheet * sides + 1 + i : sheet * sides / 2 + 1 + i;
            }
            if (gather == 1) {
                page[sides - 1] = t.places - sheet * sides / 2;
                for (int i = sides - 2; i >= sides / 2; i--) {
                    page[i] = page[i + 1] - 1;
                }
            }
            for (int i = 0; i < sides; i++) {
                int[] r = run.get(i);
                int row = r[0], column = r[1], side = r[2], head = r[3];
                if (side == 1 && turn == 0) {
                    column = t.wide - 1 - column;
                }
                if (side == 1 && turn == 1) {
                    row = t.high - 1 - row;
                    head = 1 - head;
                }
                int behind = i % 2 == 0 ? page[i + 1] : page[i - 1];
                t.byPage.put(page[i], new int[] {sheet, side, row, column, head, cell(sheet, side, row, column), behind});
                t.byCell.put(cell(sheet, side, row, column), page[i]);
            }
        }
        return t;
    }

    private Table table() {
        String wanted = now.fold + " " + now.job[0] + " " + now.job[1] + " " + now.job[2];
        if (!wanted.equals(tableOf)) {
            tableOf = wanted;
            table = tableFor(now.fold, now.job[0], now.job[1], now.job[2]);
        }
        return table;
    }

    private boolean isForme(int forme) {
        for (int sheet = 0; sheet < table().sheets; sheet++) {
            if (forme == 10 * sheet || forme == 10 * sheet + 1) {
                return true;
            }
        }
        return false;
    }

    private static boolean in(int v, int least, int greatest) {
        return least <= v && v <= greatest;
    }

    private void emptied() {
        now.line.clear();
        now.printed.clear();
        now.plan.clear();
    }

    int fold(int figures) {
        if (!String.valueOf(figures).matches("[1-4]{1,4}")) {
            return BAD;
        }
        int was = Integer.parseInt(now.fold);
        if (was != figures) {
            now.fold = String.valueOf(figures);
            emptied();
        }
        return was;
    }

    private static boolean mayBe(int what, int v) {
        int[] least = {1, 0, 0, 0, 1}, most = {128, 1, 1, 1000000, 100000};
        return in(v, least[what], most[what]);
    }

    int set(int what, int v) {
        if (!in(what, 0, 4)) {
            return NONE;
        }
        if (!mayBe(what, v)) {
            return BAD;
        }
        int was = now.job[what];
        now.job[what] = v;
        if (what < 3 && was != v) {
            emptied();
        }
        return was;
    }

    int told(int what) {
        if (!in(what, 0, 9)) {
            return NONE;
        }
        Table t = table();
        int[] more = {Integer.parseInt(now.fold), t.wide, t.high, t.sheets, t.places - now.job[0]};
        return what < 5 ? now.job[what] : more[what - 5];
    }

    int run(int i, int what) {
        List<int[]> run = runOf(now.fold);
        return in(i, 0, run.size() - 1) && in(what, 0, 3) ? run.get(i)[what] : NONE;
    }

    int stands(int page, int what) {
        int[] at = table().byPage.get(page);
        return at == null || !in(what, 0, 6) ? NONE : at[what];
    }

    int page(int forme, int row, int column) {
        Table t = table();
        if (!isForme(forme) || !in(row, 0, t.high - 1) || !in(column, 0, t.wide - 1)) {
            return NONE;
        }
        return t.byCell.get(cell(forme / 10, forme % 10, row, column));
    }

    int turned(int sheet, int row, int column) {
        Table t = table();
        if (!in(sheet, 0, t.sheets - 1)) {
            return NONE;
        }
        Map<String, Integer> both = new HashMap<>();
        for (int r = 0; r < t.high; r++) {
            for (int c = 0; c < t.wide; c++) {
                both.put(r + "," + c, page(10 * sheet, r, c));
                both.put((now.job[2] == 0 ? r : r + t.high) + "," + (now.job[2] == 0 ? c + t.wide : c), page(10 * sheet + 1, r, c));
            }
        }
        return both.getOrDefault(row + "," + column, NONE);
    }

    private int leavesOutside(int page) {
        Table t = table();
        int span = now.job[1] == 1 ? t.places : t.places / t.sheets;
        int i = (page - 1) % span;
        return i < span / 2 ? i / 2 : (span - 1 - i) / 2;
    }

    int creep(int page, int what) {
        if (!table().byPage.containsKey(page) || !in(what, 0, 1)) {
            return NONE;
        }
        long creep = (long) now.job[3] * leavesOutside(page) * (what == 1 ? now.job[4] : 1);
        return creep > Integer.MAX_VALUE ? OVER : (int) creep;
    }

    long share(int page, int part) {
        if (!table().byPage.containsKey(page) || !in(part, 0, 1)) {
            return NO;
        }
        long above = creep(page, 0), below = 0;
        for (int p = 1; p <= now.job[0]; p++) {
            below = Math.max(below, creep(p, 0));
        }
        if (below == 0) {
            return part;
        }
        long common = java.math.BigInteger.valueOf(above).gcd(java.math.BigInteger.valueOf(below)).longValue();
        return (part == 0 ? above : below) / common;
    }

    int waits(int forme) {
        if (!isForme(forme)) {
            return NONE;
        }
        if (now.line.contains(forme) || now.printed.contains(forme)) {
            return STATE;
        }
        if (now.line.size() == 40) {
            return FULL;
        }
        now.line.add(forme);
        return now.line.size();
    }

    int press(int n) {
        if (!in(n, 1, 99)) {
            return BAD;
        }
        int many = 0;
        for (int stroke = 1; stroke <= n; stroke++) {
            if (now.line.isEmpty()) {
                break;
            }
            int first = now.line.remove(0);
            boolean isBack = first % 10 == 1;
            if (isBack && !now.printed.contains(first - 1) && !now.line.isEmpty()) {
                now.line.add(first);
            } else {
                now.printed.add(first);
                many++;
            }
        }
        return many;
    }

    int clears(int sheet) {
        if (!in(sheet, 0, table().sheets - 1)) {
            return NONE;
        }
        int before = now.line.size();
        now.line.removeIf(forme -> forme / 10 == sheet);
        return before - now.line.size();
    }

    private static int kth(List<Integer> list, int k) {
        return k < 0 ? NONE : k < list.size() ? list.get(k) : NO_MORE;
    }

    int line(int k) {
        return kth(now.line, k);
    }

    int missing(int what) {
        TreeSet<Integer> missing = new TreeSet<>();
        for (int page = 1; page <= now.job[0]; page++) {
            int[] at = table().byPage.get(page);
            if (!now.printed.contains(10 * at[0] + at[1])) {
                missing.add(page);
            }
        }
        switch (what) {
            case 0:
                return missing.size();
            case 1:
                return missing.isEmpty() ? NO_MORE : missing.first();
            case 2:
                return missing.isEmpty() ? NO_MORE : missing.last();
            default:
                return NONE;
        }
    }

    int printed(int k) {
        return kth(now.printed, k);
    }

    int plan(int forme, int row, int column, int page, int head) {
        if (page(forme, row, column) == NONE) {
            return NONE;
        }
        if (!in(page, 1, now.job[0]) || !in(head, 0, 1)) {
            return BAD;
        }
        int cell = cell(forme / 10, forme % 10, row, column);
        if (!now.plan.containsKey(cell) && now.plan.size() == 60) {
            return FULL;
        }
        now.plan.put(cell, new int[] {page, head});
        return now.plan.size();
    }

    int unplan(int page) {
        if (!in(page, 1, now.job[0])) {
            return NONE;
        }
        int before = now.plan.size();
        now.plan.values().removeIf(told -> told[0] == page);
        return before - now.plan.size();
    }

    int planned(int k, int what) {
        if (!in(k, 0, now.plan.size() - 1) || !in(what, 0, 2)) {
            return NONE;
        }
        int cell = new ArrayList<>(now.plan.keySet()).get(k);
        return what == 0 ? cell : now.plan.get(cell)[what - 1];
    }

    int plans() {
        Table t = table();
        for (int sheet = 0; sheet < t.sheets; sheet++) {
            for (int side = 0; side < 2; side++) {
                for (int row = 0; row < t.high; row++) {
                    for (int column = 0; column < t.wide; column++) {
                        int page = page(10 * sheet + side, row, column);
                        plan(10 * sheet + side, row, column, page, stands(page, 4));
                    }
                }
            }
        }
        return now.plan.size();
    }

    private List<Integer> proof() {
        for (int page = 1; page <= now.job[0]; page++) {
            List<Integer> cells = new ArrayList<>();
            for (Map.Entry<Integer, int[]> told : now.plan.entrySet()) {
                if (told.getValue()[0] == page) {
                    cells.add(told.getKey());
                }
            }
            if (cells.isEmpty()) {
                return List.of(1, page);
            }
            if (cells.size() > 1) {
                return List.of(2, page, cells.get(0), cells.get(1));
            }
            if (cells.get(0) != stands(page, 5)) {
                return List.of(3, page, cells.get(0), stands(page, 5));
            }
            if (now.plan.get(cells.get(0))[1] != stands(page, 4)) {
                return List.of(4, page, cells.get(0), stands(page, 4));
            }
        }
        return List.of(0);
    }

    int proof(int k) {
        return kth(proof(), k);
    }

    int see(int forme, int row, int column, int page) {
        if (forme == -1) {
            now.seen.clear();
            return 0;
        }
        if (!in(forme, 0, 319) || forme % 10 > 1 || !in(row, 0, 15) || !in(column, 0, 15) || !in(page, 1, 128)) {
            return BAD;
        }
        if (now.seen.size() == 5) {
            return FULL;
        }
        now.seen.add(new int[] {forme, row, column, page});
        return now.seen.size();
    }

    private boolean showsAllSeen(Table t) {
        for (int[] seen : now.seen) {
            int[] at = t.byPage.get(seen[3]);
            if (at == null || 10 * at[0] + at[1] != seen[0] || at[2] != seen[1] || at[3] != seen[2]) {
                return false;
            }
        }
        return true;
    }

    int fits(int what) {
        if (!in(what, 0, 1)) {
            return NONE;
        }
        int many = 0, least = NO_MORE;
        for (int word = 4444; word >= 1; word--) {
            String fold = String.valueOf(word);
            if (fold.length() == now.fold.length() && fold.matches("[1-4]+")
                && (now.seen.isEmpty() || showsAllSeen(tableFor(fold, now.job[0], now.job[1], now.job[2])))) {
                many++;
                least = word;
            }
        }
        return what == 0 ? many : least;
    }

    int event(int what, int n) {
        if (what == -1) {
            now.events.clear();
            return 0;
        }
        if (!in(what, 0, 3)) {
            return NONE;
        }
        if (what == 3 ? !in(n, 1, 4) : !mayBe(what, n)) {
            return BAD;
        }
        if (now.events.size() == 8) {
            return FULL;
        }
        now.events.add(new int[] {what, n});
        return now.events.size();
    }

    int after(int what) {
        if (!in(what, 0, 2)) {
            return NONE;
        }
        String fold = now.fold;
        int[] job = now.job.clone();
        for (int[] event : now.events) {
            if (event[0] == 3) {
                fold = fold.length() < 4 ? fold + event[1] : fold;
            } else {
                job[event[0]] = event[1];
            }
        }
        Table t = tableFor(fold, job[0], job[1], job[2]);
        return what == 0 ? t.sheets : what == 1 ? t.byPage.get(1)[5] : t.places - job[0];
    }

    int feed(int sign) {
        if (!in(sign, 0, 127)) {
            return BAD;
        }
        if (text.length() == 100) {
            return FULL;
        }
        text += (char) sign;
        return text.length();
    }

    /** The length of the longest beginning with which a job begins; -1, if the whole is a job. */
    private static int fault(String text) {
        if (JOB.matcher(text).matches()) {
            return -1;
        }
        for (int length = 1; length <= text.length(); length++) {
            Matcher matcher = JOB.matcher(text.substring(0, length));
            if (!matcher.matches() && !matcher.hitEnd()) {
                return length - 1;
            }
        }
        return text.length();
    }

    private boolean isDone(String clause) {
        String[] numbers = clause.substring(1).split(",");
        int first = Integer.parseInt(numbers[0]);
        switch (clause.charAt(0)) {
            case 'f':
                return fold(first) > 0;
            case 'n':
                return set(0, first) >= 0;
            case 'g':
                return set(1, first) >= 0;
            case 't':
                return set(2, first) >= 0;
            case 'w':
                return waits(first) > 0;
            default:
                int second = Integer.parseInt(numbers[1]);
                return mayBe(3, first) && mayBe(4, second) && set(3, first) >= 0 && set(4, second) >= 0;
        }
    }

    int read() {
        String job = text;
        text = "";
        int fault = fault(job);
        if (fault >= 0) {
            return -10 - fault;
        }
        int many = 0;
        for (String clause : job.split(";")) {
            many += isDone(clause) ? 1 : 0;
        }
        return many;
    }

    int judge(int forme, int tape, int i) {
        if (!isForme(forme) || !in(tape, 0, 5)) {
            return NONE;
        }
        List<Long> row = tapes.get(tape);
        if (row != null && !sorts[tape].equals(1)) {
            return castRefused();
        }
        int looked = 0;
        for (int r = 0; r < table().high; r++) {
            for (int c = 0; c < table().wide; c++) {
                if (row == null || i < 0 || (long) i + looked >= row.size()) {
                    return 100 + looked;
                }
                int page = page(forme, r, c);
                long want = page > now.job[0] ? 0 : page;
                if (row.get(i + looked) != want) {
                    return looked;
                }
                looked++;
            }
        }
        return NO_MORE;
    }

    private static int castRefused() {
        return -12;
    }

    int image() {
        image = now.twin();
        return table().sheets;
    }

    int undo() {
        if (image == null) {
            return STATE;
        }
        now = image.twin();
        return table().sheets;
    }

    int count(int what) {
        int[] counts = {
            now.seen.size(), now.events.size(), text.length(), now.line.size(), now.printed.size(), now.plan.size()};
        return in(what, 0, 5) ? counts[what] : BAD;
    }

    int tape(int tape, int sort, int n) {
        if (!in(tape, 0, 5)) {
            return NONE;
        }
        if (sort == -1) {
            tapes.set(tape, null);
            return 1;
        }
        if (!in(sort, 0, 4) || n > 60) {
            return BAD;
        }
        if (n < 0) {
            return -14;
        }
        tapes.set(tape, new ArrayList<>(Collections.nCopies(n, 0L)));
        sorts[tape] = sort;
        return 1;
    }

    int item(int tape, int i, long v) {
        if (!in(tape, 0, 5)) {
            return NONE;
        }
        List<Long> row = tapes.get(tape);
        if (row == null) {
            return -11;
        }
        if (!in(i, 0, row.size() - 1)) {
            return -13;
        }
        long[] asSorts = {(byte) v, (short) v, (int) v, v, v == 0 ? 0 : 1};
        row.set(i, asSorts[(Integer) sorts[tape]]);
        return 1;
    }

    long peek(int tape, int i) {
        List<Long> row = in(tape, 0, 5) ? tapes.get(tape) : null;
        return row == null || !in(i, 0, row.size() - 1) ? NO : row.get(i);
    }

    int shift(int tape, int i, int other, int j, int n) {
        if (!in(tape, 0, 5) || !in(other, 0, 5)) {
            return NONE;
        }
        List<Long> from = tapes.get(tape), to = tapes.get(other);
        if (from == null || to == null) {
            return -11;
        }
        if (!sorts[tape].equals(sorts[other])) {
            return castRefused();
        }
        if (n < 0 || i < 0 || j < 0 || (long) i + n > from.size() || (long) j + n > to.size()) {
            return -13;
        }
        List<Long> before = new ArrayList<>(from);
        for (int k = 0; k < n; k++) {
            to.set(j + k, before.get(i + k));
        }
        return n;
    }
}
