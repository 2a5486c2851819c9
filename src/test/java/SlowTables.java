import java.util.ArrayList;
import java.util.Arrays;
import java.util.Comparator;
import java.util.List;
import java.util.function.Supplier;
import java.util.regex.Matcher;
import java.util.regex.Pattern;

/**
 * The document once more, written as naively as it can be, day by day and by trying all there is, so that the class
 * can be compared with it. A row is {KEY, VALUE, FROM, TO, REF}.
 */
final class SlowTables {
    private static final Pattern WORK = Pattern.compile(
            "(a[01]\\d{7}+|s[01]\\d{7}+|r\\d{7}+|c[01]\\d{5}+|j[01]|w[0-2])*+", Pattern.DOTALL);

    private record Snapshot(List<List<int[]>> tables, int way) {
    }

    private List<List<int[]>> tables = List.of(new ArrayList<>(), new ArrayList<>());
    private int way = 0;
    private final List<Snapshot> past = new ArrayList<>();
    private final Snapshot[] kept = new Snapshot[2];
    private String text = "";
    List<Long> told = new ArrayList<>();
    private final List<int[]> rumours = new ArrayList<>();
    private boolean notNoted = false;

    // Helpers.

    private static List<List<int[]>> copy(List<List<int[]>> source) {
        List<List<int[]>> result = new ArrayList<>();
        for (List<int[]> table : source) {
            List<int[]> rows = new ArrayList<>();
            for (int[] r : table) {
                rows.add(r.clone());
            }
            result.add(rows);
        }
        return result;
    }

    private static int[] find(List<List<int[]>> where, int table, int key, int day) {
        for (int[] r : where.get(table)) {
            if (r[0] == key && r[2] <= day && day < r[3]) {
                return r;
            }
        }
        return null;
    }

    private static boolean held(List<List<int[]>> where) {
        for (int[] r : where.get(0)) {
            for (int day = r[2]; day < r[3]; day++) {
                if (r[4] != 10 && find(where, 1, r[4], day) == null) {
                    return false;
                }
            }
        }
        return true;
    }

    private static boolean touches(int[] r, int key, int from, int to) {
        for (int day = from; day < to; day++) {
            if (r[0] == key && r[2] <= day && day < r[3]) {
                return true;
            }
        }
        return false;
    }

    private static boolean bad(int table, int key, int from, int to) {
        return table < 0 || table > 1 || key < 0 || key > 9 || from < 0 || from > 99 || to <= from || to > 100;
    }

    private void tell(long... numbers) {
        told = new ArrayList<>();
        for (long n : numbers) {
            told.add(n);
        }
    }

    private int done(List<List<int[]>> next, int nextWay, int answer) {
        for (List<int[]> table : next) {
            if (table.size() > 20) {
                return -9;
            }
            table.sort(Comparator.<int[]>comparingInt(r -> r[0]).thenComparingInt(r -> r[2]));
        }
        if (!notNoted) {
            remember(new Snapshot(copy(tables), way));
        }
        tables = next;
        way = nextWay;
        return answer;
    }

    private void remember(Snapshot snapshot) {
        past.add(snapshot);
        if (past.size() > 10) {
            past.remove(0);
        }
    }

    // Rows.

    int sign(int v) {
        if (text.length() > 76) {
            return -1;
        }
        text = text + (char) (v >> 24 & 255) + (char) (v >> 16 & 255) + (char) (v >> 8 & 255) + (char) (v & 255);
        return text.length();
    }

    int end(int n) {
        if (n < 0 || n > text.length()) {
            return 0;
        }
        text = text.substring(0, n);
        return 1;
    }

    /** MIN_VALUE where the call throws. */
    long entry(int table, int i, int what) {
        if (table < 0 || table > 1 || i < 0 || i >= tables.get(table).size() || what < 0 || what > 4) {
            return Long.MIN_VALUE;
        }
        return tables.get(table).get(i)[what];
    }

    int sheet(int kind, int n, int f, int step) {
        if (kind < 0 || kind > 3 || n > 20) {
            return -1;
        }
        if (kind < 3 && n < 0) {
            return -2;
        }
        int[] entries = new int[kind == 3 ? 0 : n];
        for (int i = 0; i < entries.length; i++) {
            long exact = f + (long) i * step;
            int wrapped = (int) exact;
            entries[i] = kind == 0 ? (byte) wrapped : kind == 1 ? (short) wrapped : wrapped;
        }
        int sum = 0;
        for (int i = 0; i < tables.get(0).size(); i++) {
            int v = i < entries.length ? entries[i] : 0;
            v = v < 0 ? 0 : v > 99 ? 99 : v;
            tables.get(0).get(i)[1] = v;
            sum += v;
        }
        return kind == 3 ? -3 : sum;
    }

    // What is done.

    int adds(int table, int key, int value, int from, int to) {
        if (bad(table, key, from, to) || value < 0 || value > 99) {
            return -1;
        }
        for (int day = from; day < to; day++) {
            if (find(tables, table, key, day) != null) {
                return -2;
            }
        }
        List<List<int[]>> next = copy(tables);
        int[] row = {key, value, from, to, 10};
        next.get(table).add(row);
        int answer = done(next, way, 0);
        return answer < 0 ? answer : tables.get(table).indexOf(row);
    }

    /** A row day by day: stretches of days with the same cells (null: none) are rows. */
    private static void addStretches(List<int[]> target, int[] row, java.util.function.IntFunction<int[]> cellsAt) {
        int[] open = null;
        for (int day = row[2]; day < row[3]; day++) {
            int[] cells = cellsAt.apply(day);
            if (open != null && cells != null && open[1] == cells[0] && open[4] == cells[1]) {
                open[3] = day + 1;
            } else if (cells != null) {
                open = new int[] {row[0], cells[0], day, day + 1, cells[1]};
                target.add(open);
            } else {
                open = null;
            }
        }
    }

    private int changed(int table, int key, int from, int to, int value, int ref) {
        List<List<int[]>> next = copy(tables);
        next.get(table).clear();
        int had = 0;
        for (int[] r : tables.get(table)) {
            had += touches(r, key, from, to) ? 1 : 0;
            boolean hit = r[0] == key;
            addStretches(next.get(table), r, day -> hit && from <= day && day < to
                    ? new int[] {value < 0 ? r[1] : value, ref < 0 ? r[4] : ref} : new int[] {r[1], r[4]});
        }
        if (had == 0) {
            return -2;
        }
        if (!held(next)) {
            return -3;
        }
        int answer = done(next, way, had);
        if (answer >= 0) {
            tell(tables.get(table).size());
        }
        return answer;
    }

    int sets(int table, int key, int value, int from, int to) {
        return bad(table, key, from, to) || value < 0 || value > 99 ? -1 : changed(table, key, from, to, value, -1);
    }

    int refers(int key, int ref, int from, int to) {
        return bad(0, key, from, to) || ref < 0 || ref > 10 ? -1 : changed(0, key, from, to, -1, ref);
    }

    /** TABLE 0 as WAY leaves it, TABLE 1 being as it is in next: of how many days something came. */
    private int byWay(List<List<int[]>> next, int byWay) {
        int came = 0;
        next.get(0).clear();
        for (int[] r : tables.get(0)) {
            for (int day = r[2]; day < r[3]; day++) {
                came += r[4] != 10 && find(next, 1, r[4], day) == null ? 1 : 0;
            }
            addStretches(next.get(0), r, day -> r[4] == 10 || find(next, 1, r[4], day) != null
                    ? new int[] {r[1], r[4]} : byWay == 2 ? new int[] {r[1], 10} : null);
        }
        return came;
    }

    int cuts(int table, int key, int from, int to) {
        if (bad(table, key, from, to)) {
            return -1;
        }
        List<List<int[]>> next = copy(tables);
        next.get(table).clear();
        int had = 0;
        int days = 0;
        for (int[] r : tables.get(table)) {
            had += touches(r, key, from, to) ? 1 : 0;
            for (int day = from; day < to; day++) {
                days += touches(r, key, day, day + 1) ? 1 : 0;
            }
            addStretches(next.get(table), r,
                    day -> r[0] == key && from <= day && day < to ? null : new int[] {r[1], r[4]});
        }
        if (had == 0) {
            return -2;
        }
        if (way == 0 && !held(next)) {
            return -3;
        }
        int came = table == 1 ? byWay(next, way) : 0;
        int answer = done(next, way, had);
        if (answer >= 0) {
            tell(days, came);
        }
        return answer;
    }

    int shifts(int table, int key, int by) {
        if (bad(table, key, 0, 1) || by < -99 || by > 99 || by == 0) {
            return -1;
        }
        List<List<int[]>> next = copy(tables);
        int had = 0;
        boolean out = false;
        for (int[] r : next.get(table)) {
            if (r[0] == key) {
                had++;
                r[2] += by;
                r[3] += by;
                out |= r[2] < 0 || r[3] > 100;
            }
        }
        if (had == 0) {
            return -2;
        }
        if (out) {
            return -3;
        }
        if ((table == 0 || way == 0) && !held(next)) {
            return -4;
        }
        if (table == 1) {
            byWay(next, way);
        }
        return done(next, way, had);
    }

    int joins(int table) {
        if (table < 0 || table > 1) {
            return -1;
        }
        List<List<int[]>> next = copy(tables);
        int fewer = joinAll(next.get(table));
        return done(next, way, fewer);
    }

    private static int joinAll(List<int[]> rows) {
        int fewer = 0;
        boolean again = true;
        while (again) {
            again = false;
            for (int i = 0; i < rows.size() && !again; i++) {
                for (int j = 0; j < rows.size() && !again; j++) {
                    int[] a = rows.get(i);
                    int[] b = rows.get(j);
                    if (a[0] == b[0] && a[1] == b[1] && a[4] == b[4] && a[3] == b[2]) {
                        a[3] = b[3];
                        rows.remove(j);
                        fewer++;
                        again = true;
                    }
                }
            }
        }
        return fewer;
    }

    int way(int v) {
        if (v < 0 || v > 2) {
            return -1;
        }
        return v == way ? -2 : done(copy(tables), v, 10 + way);
    }

    int work() {
        String told = text;
        text = "";
        for (int p = 0; p <= told.length(); p++) {
            Matcher matcher = WORK.matcher(told.substring(0, p));
            boolean whole = matcher.matches();
            if (p == told.length() && whole) {
                break;
            }
            if (p == told.length()) {
                return -1 - p;
            }
            Matcher further = WORK.matcher(told.substring(0, p + 1));
            if (!further.matches() && !further.hitEnd()) {
                return -1 - p;
            }
        }
        Snapshot ahead = new Snapshot(copy(tables), way);
        notNoted = true;
        int count = 0;
        int refused = 0;
        for (int p = 0; p < told.length() && refused == 0;) {
            int next = p + 1;
            while (next < told.length() && Character.isDigit(told.charAt(next))) {
                next++;
            }
            if (act(told.charAt(p), told.substring(p + 1, next)) < 0) {
                refused = 1;
            } else {
                count++;
            }
            p = next;
        }
        notNoted = false;
        if (count > 0) {
            remember(ahead);
        }
        tell(refused, tables.get(0).size() + tables.get(1).size());
        return count;
    }

    private int act(char letter, String digits) {
        int n = digits.length();
        int one = digits.charAt(0) - '0';
        if (letter == 'j') {
            return joins(one);
        }
        if (letter == 'w') {
            return way(one);
        }
        int from = Integer.parseInt(digits.substring(n - 4, n - 2));
        int to = Integer.parseInt(digits.substring(n - 2));
        to = to == 0 ? 100 : to;
        if (letter == 'r') {
            return refers(one, Integer.parseInt(digits.substring(1, 3)), from, to);
        }
        int key = digits.charAt(1) - '0';
        if (letter == 'c') {
            return cuts(one, key, from, to);
        }
        int value = Integer.parseInt(digits.substring(2, 4));
        return letter == 'a' ? adds(one, key, value, from, to) : sets(one, key, value, from, to);
    }

    int undo() {
        if (past.isEmpty()) {
            return -1;
        }
        Snapshot last = past.remove(past.size() - 1);
        tables = last.tables();
        way = last.way();
        return past.size();
    }

    // At a day, over periods.

    int at(int table, int key, int day) {
        if (bad(table, key, day, day + 1)) {
            return -1;
        }
        int[] r = find(tables, table, key, day);
        if (r == null) {
            return -2;
        }
        tell(r[4], r[2], r[3]);
        return r[1];
    }

    int slice(int table, int day) {
        if (bad(table, 0, day, day + 1)) {
            return -1;
        }
        tell();
        int bits = 0;
        for (int key = 0; key < 10; key++) {
            int[] r = find(tables, table, key, day);
            if (r != null) {
                bits += 1 << key;
                told.add((long) r[1]);
            }
        }
        return bits;
    }

    int gaps(int table, int key, int from, int to) {
        if (bad(table, key, from, to)) {
            return -1;
        }
        tell();
        int bare = 0;
        for (int day = from; day < to; day++) {
            if (find(tables, table, key, day) == null) {
                if (bare == 0) {
                    int stop = day;
                    while (stop < to && find(tables, table, key, stop) == null) {
                        stop++;
                    }
                    tell(day, stop);
                }
                bare++;
            }
        }
        return bare;
    }

    int covers(int key, int from, int to) {
        if (bad(1, key, from, to)) {
            return -1;
        }
        int all = 1;
        for (int day = from; day < to; day++) {
            all = find(tables, 1, key, day) == null ? 0 : all;
        }
        tell(tables.get(1).stream().filter(r -> touches(r, key, from, to)).count());
        return all;
    }

    int lies(int table, int i, int other, int j) {
        if (entry(table, i, 0) < 0 || entry(other, j, 0) < 0) {
            return -1;
        }
        long f = entry(table, i, 2);
        long t = entry(table, i, 3);
        long g = entry(other, j, 2);
        long u = entry(other, j, 3);
        int both = 0;
        for (int day = 0; day < 100; day++) {
            both += f <= day && day < t && g <= day && day < u ? 1 : 0;
        }
        tell(both);
        boolean[] cases = {t < g, t == g, f < g && g < t && t < u, f == g && t < u, g < f && t < u, g < f && t == u,
            f == g && t == u, f < g && t == u, f < g && u < t, f == g && u < t, g < f && f < u && u < t, u == f, u < f};
        int answer = -5;
        for (int k = 0; k < cases.length; k++) {
            if (cases[k]) {
                answer = answer == -5 ? k : -6;
            }
        }
        return answer;
    }

    int changes(int table, int key) {
        if (bad(table, key, 0, 1)) {
            return -1;
        }
        tell();
        int often = 0;
        for (int day = 1; day < 100; day++) {
            int[] a = find(tables, table, key, day - 1);
            int[] b = find(tables, table, key, day);
            if (a != null && b != null && a[1] != b[1]) {
                often++;
                if (often <= 12) {
                    told.add((long) day);
                }
            }
        }
        return often;
    }

    private static int days(List<int[]> rows) {
        return rows.stream().mapToInt(r -> r[3] - r[2]).sum();
    }

    int rows(int table) {
        if (table < 0 || table > 1) {
            return -1;
        }
        List<int[]> rows = copy(tables).get(table);
        joinAll(rows);
        tell(rows.size(), days(rows));
        return tables.get(table).size();
    }

    int longest(int table) {
        if (table < 0 || table > 1) {
            return -1;
        }
        for (int days = 100; days > 0; days--) {
            for (int i = 0; i < tables.get(table).size(); i++) {
                if (entry(table, i, 3) - entry(table, i, 2) == days) {
                    tell(days);
                    return i;
                }
            }
        }
        return -2;
    }

    int free(int table, int key, int day, int n) {
        if (bad(table, key, day, day + 1) || n < 1 || n > 100) {
            return -1;
        }
        for (int from = day; from + n <= 100; from++) {
            boolean empty = true;
            for (int d = from; d < from + n; d++) {
                empty &= find(tables, table, key, d) == null;
            }
            if (empty) {
                return from;
            }
        }
        return -2;
    }

    // Both tables, day by day.

    /** Stretches of one key at which mark(key, day) is the same and not null: all days, and where the first lies. */
    private int stretches(int from, int to, java.util.function.BiFunction<Integer, Integer, String> mark) {
        int many = 0;
        tell(0);
        for (int key = 0; key < 10; key++) {
            String ahead = null;
            for (int day = from; day < to; day++) {
                String here = mark.apply(key, day);
                if (here != null && !here.equals(ahead)) {
                    many++;
                    if (many == 1) {
                        told.addAll(List.of((long) key, (long) day, 0L));
                    }
                }
                if (here != null) {
                    told.set(0, told.get(0) + 1);
                    if (many == 1) {
                        told.set(3, day + 1L);
                    }
                }
                ahead = here;
            }
        }
        return many;
    }

    int meets(int from, int to) {
        if (bad(0, 0, from, to)) {
            return -1;
        }
        return stretches(from, to, (key, day) -> {
            int[] r = find(tables, 0, key, day);
            int[] s = r == null ? null : find(tables, 1, r[4], day);
            return s == null ? null : r[1] + " " + r[4] + " " + s[1];
        });
    }

    int lacks(int table) {
        if (table < 0 || table > 1) {
            return -1;
        }
        return stretches(0, 100, (key, day) -> find(tables, table, key, day) != null
                && find(tables, 1 - table, key, day) == null ? "" : null);
    }

    int either() {
        int many = stretches(0, 100, (key, day) -> find(tables, 0, key, day) != null
                || find(tables, 1, key, day) != null ? "" : null);
        long days = told.get(0);
        stretches(0, 100, (key, day) -> find(tables, 0, key, day) != null
                && find(tables, 1, key, day) != null ? "" : null);
        tell(days, told.get(0));
        return many;
    }

    private int sumAt(int table, int day, boolean ones) {
        int sum = 0;
        for (int key = 0; key < 10; key++) {
            int[] r = find(tables, table, key, day);
            sum += r == null ? 0 : ones ? 1 : r[1];
        }
        return sum;
    }

    int sums(int table, int from, int to) {
        if (bad(table, 0, from, to)) {
            return -1;
        }
        int sum = 0;
        int most = -1;
        int first = -1;
        for (int day = from; day < to; day++) {
            int here = sumAt(table, day, false);
            sum += here;
            first = here > most ? day : first;
            most = Math.max(most, here);
        }
        tell(most, first);
        return sum;
    }

    int mean(int table, int key) {
        if (bad(table, key, 0, 1)) {
            return -1;
        }
        int sum = 0;
        int days = 0;
        for (int day = 0; day < 100; day++) {
            int[] r = find(tables, table, key, day);
            sum += r == null ? 0 : r[1];
            days += r == null ? 0 : 1;
        }
        if (days == 0) {
            return -2;
        }
        int lower = 1;
        while (sum * lower % days != 0) {
            lower++;
        }
        tell(sum * lower / days, lower, days);
        return 0;
    }

    int fullest(int table) {
        if (table < 0 || table > 1) {
            return -1;
        }
        for (int most = 10; most >= 0; most--) {
            int first = -1;
            int often = 0;
            for (int day = 99; day >= 0; day--) {
                if (sumAt(table, day, true) == most) {
                    first = day;
                    often++;
                }
            }
            if (first >= 0) {
                tell(most, often);
                return first;
            }
        }
        return -7;
    }

    int spans(int table, int from, int to) {
        if (bad(table, 0, from, to)) {
            return -1;
        }
        for (int day = from; day < to; day++) {
            if (sumAt(table, day, true) == 0) {
                return -2;
            }
        }
        for (int size = 1;; size++) {
            List<Integer> taken = new ArrayList<>();
            if (cover(tables.get(table), from, to, size, 0, taken, new boolean[100])) {
                tell();
                taken.stream().limit(12).forEach(i -> told.add((long) i));
                return size;
            }
        }
    }

    /** All sets of a size in rising order of their rows of numbers, till one covers the period. */
    private boolean cover(List<int[]> rows, int from, int to, int size, int first, List<Integer> taken, boolean[] had) {
        if (size == 0) {
            for (int day = from; day < to; day++) {
                if (!had[day]) {
                    return false;
                }
            }
            return true;
        }
        for (int i = first; i + size <= rows.size(); i++) {
            boolean[] then = had.clone();
            Arrays.fill(then, rows.get(i)[2], rows.get(i)[3], true);
            taken.add(i);
            if (cover(rows, from, to, size - 1, i + 1, taken, then)) {
                return true;
            }
            taken.remove(taken.size() - 1);
        }
        return false;
    }

    int users(int key) {
        if (key < 0 || key > 9) {
            return -1;
        }
        boolean[] used = new boolean[100];
        int many = 0;
        for (int[] r : tables.get(0)) {
            if (r[4] == key) {
                many++;
                Arrays.fill(used, r[2], r[3], true);
            }
        }
        int days = 0;
        for (boolean u : used) {
            days += u ? 1 : 0;
        }
        int unused = 0;
        for (int[] r : tables.get(1)) {
            boolean any = r[0] != key;
            for (int day = r[2]; day < r[3]; day++) {
                any |= used[day];
            }
            unused += any ? 0 : 1;
        }
        tell(days, unused);
        return many;
    }

    int drags(int key, int from, int to) {
        if (bad(1, key, from, to)) {
            return -1;
        }
        if (tables.get(1).stream().noneMatch(r -> touches(r, key, from, to))) {
            return -2;
        }
        List<List<int[]>> next = copy(tables);
        next.get(1).clear();
        for (int[] r : tables.get(1)) {
            addStretches(next.get(1), r,
                    day -> r[0] == key && from <= day && day < to ? null : new int[] {r[1], r[4]});
        }
        int hit = 0;
        for (int[] r : tables.get(0)) {
            boolean any = false;
            for (int day = r[2]; day < r[3]; day++) {
                any |= r[4] != 10 && find(next, 1, r[4], day) == null;
            }
            hit += any ? 1 : 0;
        }
        tell(hit);
        return byWay(next, 1);
    }

    // Conditions.

    int where(int table) {
        String condition = text;
        text = "";
        int fault = SlowFormula.fault(condition);
        if (fault >= 0) {
            return -1000 - fault;
        }
        if (table < 0 || table > 1) {
            return -1;
        }
        int bits = 0;
        int many = 0;
        int days = 0;
        int sum = 0;
        for (int i = 0; i < tables.get(table).size(); i++) {
            int[] r = tables.get(table).get(i);
            int value = SlowFormula.value(condition, r, i);
            sum += value;
            if (value > 0) {
                bits += 1 << i;
                many++;
                days += r[3] - r[2];
            }
        }
        tell(many, days, sum);
        return bits;
    }

    // What was kept.

    int differs(int table, int i) {
        if (table < 0 || table > 1 || i < 0 || i > 1) {
            return -1;
        }
        if (kept[i] == null) {
            return -2;
        }
        tell();
        int often = 0;
        for (int day = 0; day < 100; day++) {
            boolean other = false;
            for (int key = 0; key < 10; key++) {
                int[] a = find(tables, table, key, day);
                int[] b = find(kept[i].tables(), table, key, day);
                other |= (a == null ? -1 : a[1]) != (b == null ? -1 : b[1]);
            }
            if (other && often == 0) {
                tell(day);
            }
            often += other ? 1 : 0;
        }
        return often;
    }

    // Which row it was.

    int heard(int what, int v) {
        if (what < 0 || what > 3 || v < 0 || v > (what == 3 ? 1 : 9) || rumours.size() == 12) {
            return -1;
        }
        rumours.add(new int[] {what, v});
        return rumours.size();
    }

    int denies() {
        int were = rumours.size();
        rumours.clear();
        return were;
    }

    private static boolean so(int[] r, int what, int v) {
        return what == 0 ? r[0] == v : what == 1 ? r[1] / 10 >= v
                : what == 2 ? r[2] <= 10 * v && 10 * v < r[3] : v == (r[4] == 10 ? 0 : 1);
    }

    private List<int[]> fitting() {
        return tables.get(0).stream().filter(r -> rumours.stream().allMatch(q -> so(r, q[0], q[1]))).toList();
    }

    int fits() {
        List<int[]> fitting = fitting();
        tell(fitting.size());
        int bits = 0;
        for (int[] r : fitting) {
            bits += 1 << tables.get(0).indexOf(r);
        }
        return bits;
    }

    int asks() {
        List<int[]> fitting = fitting();
        if (fitting.isEmpty()) {
            return -2;
        }
        int best = -1;
        long least = 1000;
        for (int what = 0; what < 4; what++) {
            for (int v = 0; v <= (what == 3 ? 1 : 9); v++) {
                int w = what;
                int u = v;
                long yes = fitting.stream().filter(r -> so(r, w, u)).count();
                long most = Math.max(yes, fitting.size() - yes);
                if (most < least) {
                    least = most;
                    best = 10 * what + v;
                }
            }
        }
        tell(least);
        return best;
    }

    // Years.

    int years(int seed, int n) {
        if (n < 1 || n > 40) {
            return -1;
        }
        long[] r = {seed & 0xFFFFFFFFL};
        Supplier<Long> next = () -> {
            r[0] = (r[0] * 1103515245L + 12345L) % (1L << 32);
            return r[0] / 65536;
        };
        notNoted = true;
        for (int i = 0; i < n; i++) {
            int act = (int) (next.get() % 6);
            int table = (int) (next.get() % 2);
            int key = (int) (next.get() % 10);
            int from = (int) (next.get() % 100);
            int to = Math.min(100, from + (int) (next.get() % 20) + 1);
            switch (act) {
                case 0, 1 -> adds(table, key, (int) (next.get() % 100), from, to);
                case 2 -> sets(table, key, (int) (next.get() % 100), from, to);
                case 3 -> refers(key, (int) (next.get() % 11), from, to);
                case 4 -> cuts(table, key, from, to);
                default -> joins(table);
            }
        }
        notNoted = false;
        int sum = 0;
        for (List<int[]> table : tables) {
            for (int[] row : table) {
                sum += row[2] * row[1];
            }
        }
        tell(days(tables.get(0)) + days(tables.get(1)), sum);
        return tables.get(0).size() + tables.get(1).size();
    }

    // Kept.

    int keep(int i) {
        if (i < 0 || i > 1) {
            return 0;
        }
        kept[i] = new Snapshot(copy(tables), way);
        return 1;
    }

    int again(int i) {
        if (i < 0 || i > 1 || kept[i] == null) {
            return 0;
        }
        tables = copy(kept[i].tables());
        way = kept[i].way();
        past.clear();
        return 1;
    }

    int count(int what) {
        return switch (what) {
            case 0 -> tables.get(0).size();
            case 1 -> tables.get(1).size();
            case 2 -> way;
            case 3 -> days(tables.get(0));
            case 4 -> days(tables.get(1));
            case 5 -> (int) tables.get(0).stream().filter(r -> r[4] != 10).count();
            case 6 -> rumours.size();
            case 7 -> past.size();
            case 8 -> told.size();
            case 9 -> text.length();
            default -> -100;
        };
    }
}
