import java.util.NoSuchElementException;

/** Two tables whose rows are valid over periods of days; what each call does is promised in DOC.md. */
public final class PeriodTables {
    public static final int NONE = -1;

    private static final int DAYS = 100;
    private static final int KEYS = 10;
    private static final int VALUES = 100;
    private static final int NO_REF = 10;
    private static final int ROWS_MOST = 20;
    private static final int KEPT_MOST = 2;
    private static final int YEARS_MOST = 40;

    private static final int TOO_MANY = -9;
    private static final int NO_SUCH_COUNT = -100;
    private static final int NO_FORMULA = -1000;

    // The cells of a row, numbered as entry() asks for them.
    private static final int KEY = 0;
    private static final int VALUE = 1;
    private static final int FROM = 2;
    private static final int TO = 3;
    private static final int REF = 4;
    private static final int CELLS = 5;

    private static final int REFUSING = 0;
    private static final int LETTING_GO = 2;

    // What may be heard of a row; 10 times it and v make the number of a question.
    private static final int OF_KEY = 0;
    private static final int OF_VALUE = 1;
    private static final int OF_DAY = 2;
    private static final int OF_REF = 3;
    private static final int QUESTIONS = 32;

    private final State now = new State();
    private final State draft = new State();
    private final Past past = new Past();
    private final State[] kept = {new State(), new State()};
    private final Text text = new Text();
    private final Told told = new Told();
    private final Rumours rumours = new Rumours();
    private final Line line = new Line();
    private final Line flags = new Line();
    private final Stretches stretches = new Stretches();
    private final Formula formula = new Formula();
    private int drawn;

    public PeriodTables() {
    }

    // ---- rows

    public int sign(int v) {
        return text.appendFour(v) ? text.size : NONE;
    }

    public boolean end(int n) {
        if (n < 0 || n > text.size) {
            return false;
        }
        text.size = n;
        return true;
    }

    public int entry(int table, int i, int what) throws NoSuchElementException {
        if (!isTable(table) || !now.table(table).has(i) || what < 0 || what >= CELLS) {
            throw new NoSuchElementException();
        }
        return now.table(table).cell(i, what);
    }

    public int sheet(int kind, int n, int f, int step) {
        if (kind < 0 || kind > 3 || n > ROWS_MOST) {
            return NONE;
        }
        boolean missing = kind == 3;
        if (!missing && n < 0) {
            return -2;
        }
        int sum = 0;
        for (int i = 0; i < now.first.size; i++) {
            int value = missing || i >= n ? 0 : toldBySheet(kind, f + i * step);
            now.first.put(i, VALUE, value);
            sum += value;
        }
        return missing ? -3 : sum;
    }

    private static int toldBySheet(int kind, int number) {
        int narrow = kind == 0 ? (byte) number : kind == 1 ? (short) number : number;
        return Math.max(0, Math.min(VALUES - 1, narrow));
    }

    // ---- what is done

    public int adds(int table, int key, int value, int from, int to) {
        past.prepare(now);
        return noted(addRow(table, key, value, from, to));
    }

    public int sets(int table, int key, int value, int from, int to) {
        past.prepare(now);
        return noted(setValue(table, key, value, from, to));
    }

    public int refers(int key, int ref, int from, int to) {
        past.prepare(now);
        return noted(setRef(key, ref, from, to));
    }

    public int cuts(int table, int key, int from, int to) {
        past.prepare(now);
        return noted(cutPeriod(table, key, from, to));
    }

    public int shifts(int table, int key, int by) {
        past.prepare(now);
        return noted(shiftKey(table, key, by));
    }

    public int joins(int table) {
        past.prepare(now);
        return noted(joinAlike(table));
    }

    public int way(int v) {
        past.prepare(now);
        return noted(setWay(v));
    }

    public int work() {
        int fault = text.faultOfWork();
        if (fault >= 0) {
            text.clear();
            return -1 - fault;
        }
        past.prepare(now);
        int done = 0;
        boolean refused = false;
        int place = 0;
        for (int turn = 0; turn < Text.SIGNS_MOST && place < text.size && !refused; turn++) {
            if (doAct(place) < 0) {
                refused = true;
            } else {
                done++;
            }
            place += 1 + Text.formOf(text.signAt(place)).length();
        }
        if (done > 0) {
            past.confirm();
        }
        text.clear();
        told.tell(refused ? 1 : 0, now.first.size + now.second.size);
        return done;
    }

    public int undo() {
        if (past.size == 0) {
            return NONE;
        }
        past.size--;
        now.copyOf(past.slot(past.size));
        return past.size;
    }

    /** An act that was done can be undone: the past has been prepared ahead of it. */
    private int noted(int answer) {
        if (answer >= 0) {
            past.confirm();
        }
        return answer;
    }

    /** The draft becomes what is, unless it has too many rows. */
    private int taken(int answer) {
        if (draft.first.size > ROWS_MOST || draft.second.size > ROWS_MOST) {
            return TOO_MANY;
        }
        now.copyOf(draft);
        return answer;
    }

    private int addRow(int table, int key, int value, int from, int to) {
        if (!isPortion(table, key, from, to) || !isValue(value)) {
            return NONE;
        }
        Table source = now.table(table);
        if (source.touching(key, from, to) > 0) {
            return -2;
        }
        draft.copyOf(now);
        Table target = draft.table(table);
        int number = source.numberFor(key, from);
        target.size = number;
        target.append(key, value, from, to, NO_REF);
        for (int i = number; i < source.size; i++) {
            target.appendPart(source, i, 0, DAYS);
        }
        return taken(number);
    }

    private int setValue(int table, int key, int value, int from, int to) {
        if (!isPortion(table, key, from, to) || !isValue(value)) {
            return NONE;
        }
        Table source = now.table(table);
        int touched = source.touching(key, from, to);
        if (touched == 0) {
            return -2;
        }
        draft.copyOf(now);
        draft.table(table).fillChanged(source, key, from, to, VALUE, value);
        return takenAndTold(touched, table);
    }

    private int setRef(int key, int ref, int from, int to) {
        if (!isPortion(0, key, from, to) || ref < 0 || ref > NO_REF) {
            return NONE;
        }
        int touched = now.first.touching(key, from, to);
        if (touched == 0) {
            return -2;
        }
        draft.copyOf(now);
        draft.first.fillChanged(now.first, key, from, to, REF, ref);
        return draft.isHeld() ? takenAndTold(touched, 0) : -3;
    }

    private int takenAndTold(int answer, int table) {
        int taken = taken(answer);
        if (taken >= 0) {
            told.tell(now.table(table).size);
        }
        return taken;
    }

    private int cutPeriod(int table, int key, int from, int to) {
        if (!isPortion(table, key, from, to)) {
            return NONE;
        }
        Table source = now.table(table);
        int touched = source.touching(key, from, to);
        if (touched == 0) {
            return -2;
        }
        int days = source.daysWithin(key, from, to);
        draft.copyOf(now);
        draft.table(table).fillCut(source, key, from, to);
        if (table == 1 && now.wayNumber == REFUSING && !draft.isHeld()) {
            return -3;
        }
        int came = table == 1 ? followWay(key) : 0;
        int answer = taken(touched);
        if (answer >= 0) {
            told.tell(days, came);
        }
        return answer;
    }

    private int shiftKey(int table, int key, int by) {
        if (!isTable(table) || !isKey(key) || by == 0 || by <= -DAYS || by >= DAYS) {
            return NONE;
        }
        Table source = now.table(table);
        int moved = source.touching(key, 0, DAYS);
        if (moved == 0) {
            return -2;
        }
        draft.copyOf(now);
        if (!draft.table(table).shiftRows(key, by)) {
            return -3;
        }
        if ((table == 0 || now.wayNumber == REFUSING) && !draft.isHeld()) {
            return -4;
        }
        if (table == 1) {
            followWay(key);
        }
        return taken(moved);
    }

    /**
     * Table 0 of the draft as WAY leaves it, the rows of a key of table 1 being as the draft has them:
     * of how many days of rows something came.
     */
    private int followWay(int key) {
        line.clear();
        line.addRows(draft.second, key, 1);
        Table source = now.first;
        draft.first.clear();
        int came = 0;
        for (int i = 0; i < source.size; i++) {
            if (source.cell(i, REF) == key) {
                came += followWayInRow(source, i);
            } else {
                draft.first.appendPart(source, i, 0, DAYS);
            }
        }
        return came;
    }

    private int followWayInRow(Table source, int i) {
        int came = 0;
        int start = source.cell(i, FROM);
        int to = source.cell(i, TO);
        for (int turn = 0; turn < DAYS && start < to; turn++) {
            int stop = line.stretchEnd(start, to);
            boolean bare = line.amount(start) == 0;
            if (bare) {
                came += stop - start;
            }
            if (!bare || now.wayNumber == LETTING_GO) {
                draft.first.appendPart(source, i, start, stop);
            }
            if (bare && now.wayNumber == LETTING_GO) {
                draft.first.changeLast(REF, NO_REF);
            }
            start = stop;
        }
        return came;
    }

    private int joinAlike(int table) {
        if (!isTable(table)) {
            return NONE;
        }
        Table source = now.table(table);
        int fewer = source.alikeNeighbours();
        draft.copyOf(now);
        draft.table(table).fillJoined(source);
        return taken(fewer);
    }

    private int setWay(int v) {
        if (v < 0 || v > LETTING_GO) {
            return NONE;
        }
        int was = now.wayNumber;
        if (was == v) {
            return -2;
        }
        now.wayNumber = v;
        return 10 + was;
    }

    /** The act of a day's work that begins at a place of THE TEXT, which is known to be well told. */
    private int doAct(int place) {
        int one = text.digitAt(place + 1);
        int two = text.digitAt(place + 2);
        switch (text.signAt(place)) {
            case 'a':
                return addRow(one, two, text.pairAt(place + 3), text.pairAt(place + 5), text.toAt(place + 7));
            case 's':
                return setValue(one, two, text.pairAt(place + 3), text.pairAt(place + 5), text.toAt(place + 7));
            case 'r':
                return setRef(one, text.pairAt(place + 2), text.pairAt(place + 4), text.toAt(place + 6));
            case 'c':
                return cutPeriod(one, two, text.pairAt(place + 3), text.toAt(place + 5));
            case 'j':
                return joinAlike(one);
            case 'w':
                return setWay(one);
            default:
                return NONE;
        }
    }

    // ---- at a day, over periods

    public int at(int table, int key, int day) {
        if (!isTable(table) || !isKey(key) || !isDay(day)) {
            return NONE;
        }
        Table source = now.table(table);
        for (int i = 0; i < source.size; i++) {
            if (source.touches(i, key, day, day + 1)) {
                told.tell(source.cell(i, REF), source.cell(i, FROM), source.cell(i, TO));
                return source.cell(i, VALUE);
            }
        }
        return -2;
    }

    public int slice(int table, int day) {
        if (!isTable(table) || !isDay(day)) {
            return NONE;
        }
        Table source = now.table(table);
        int bits = 0;
        told.clear();
        for (int i = 0; i < source.size; i++) {
            if (source.daysOfRowWithin(i, day, day + 1) > 0) {
                bits |= 1 << source.cell(i, KEY);
                told.add(source.cell(i, VALUE));
            }
        }
        return bits;
    }

    public int gaps(int table, int key, int from, int to) {
        if (!isPortion(table, key, from, to)) {
            return NONE;
        }
        Table source = now.table(table);
        int bare = to - from - source.daysWithin(key, from, to);
        told.clear();
        if (bare > 0) {
            int first = source.firstBareDay(key, from);
            told.add(first);
            told.add(Math.min(to, source.nextFrom(key, first)));
        }
        return bare;
    }

    public int covers(int key, int from, int to) {
        if (!isPortion(1, key, from, to)) {
            return NONE;
        }
        told.tell(now.second.touching(key, from, to));
        return now.second.daysWithin(key, from, to) == to - from ? 1 : 0;
    }

    public int lies(int table, int i, int other, int j) {
        if (!isTable(table) || !isTable(other) || !now.table(table).has(i) || !now.table(other).has(j)) {
            return NONE;
        }
        int from = now.table(table).cell(i, FROM);
        int to = now.table(table).cell(i, TO);
        told.tell(now.table(other).daysOfRowWithin(j, from, to));
        return positionOf(from, to, now.table(other).cell(j, FROM), now.table(other).cell(j, TO));
    }

    private static int positionOf(int f, int t, int otherF, int otherT) {
        if (t <= otherF) {
            return t < otherF ? 0 : 1;
        }
        if (otherT <= f) {
            return otherT < f ? 12 : 11;
        }
        if (f < otherF) {
            return t < otherT ? 2 : t == otherT ? 7 : 8;
        }
        if (f == otherF) {
            return t < otherT ? 3 : t == otherT ? 6 : 9;
        }
        return t < otherT ? 4 : t == otherT ? 5 : 10;
    }

    public int changes(int table, int key) {
        if (!isTable(table) || !isKey(key)) {
            return NONE;
        }
        Table source = now.table(table);
        int often = 0;
        told.clear();
        for (int i = 1; i < source.size; i++) {
            if (source.cell(i, KEY) == key && source.followsOn(i)
                    && source.cell(i, VALUE) != source.cell(i - 1, VALUE)) {
                often++;
                told.add(source.cell(i, FROM));
            }
        }
        return often;
    }

    public int rows(int table) {
        if (!isTable(table)) {
            return NONE;
        }
        Table source = now.table(table);
        told.tell(source.size - source.alikeNeighbours(), source.allDays());
        return source.size;
    }

    public int longest(int table) {
        if (!isTable(table)) {
            return NONE;
        }
        Table source = now.table(table);
        int best = -2;
        int most = 0;
        for (int i = 0; i < source.size; i++) {
            int days = source.daysOfRow(i);
            if (days > most) {
                best = i;
                most = days;
            }
        }
        if (best >= 0) {
            told.tell(most);
        }
        return best;
    }

    public int free(int table, int key, int day, int n) {
        if (!isTable(table) || !isKey(key) || !isDay(day) || n < 1 || n > DAYS) {
            return NONE;
        }
        Table source = now.table(table);
        int from = day;
        for (int i = 0; i < source.size; i++) {
            if (source.touches(i, key, from, from + n)) {
                from = source.cell(i, TO);
            }
        }
        return from + n <= DAYS ? from : -2;
    }

    // ---- both tables, day by day

    public int meets(int from, int to) {
        if (!isPeriod(from, to)) {
            return NONE;
        }
        stretches.clear();
        for (int i = 0; i < now.first.size; i++) {
            for (int j = 0; j < now.second.size; j++) {
                meetRows(i, j, from, to);
            }
        }
        return tellStretches();
    }

    /** What row i of table 0 and row j of table 1, if that is of the key it refers to, have in a period. */
    private void meetRows(int i, int j, int from, int to) {
        int ref = now.first.cell(i, REF);
        int start = Math.max(from, Math.max(now.first.cell(i, FROM), now.second.cell(j, FROM)));
        int stop = Math.min(to, Math.min(now.first.cell(i, TO), now.second.cell(j, TO)));
        if (now.second.cell(j, KEY) == ref && start < stop) {
            int values = now.first.cell(i, VALUE) * VALUES + now.second.cell(j, VALUE);
            stretches.add(now.first.cell(i, KEY), start, stop, values * (NO_REF + 1) + ref);
        }
    }

    public int lacks(int table) {
        if (!isTable(table)) {
            return NONE;
        }
        stretches.clear();
        for (int key = 0; key < KEYS; key++) {
            markBoth(key);
            for (int day = 0; day < DAYS; day++) {
                if (line.amount(day) == 1 + table) {
                    stretches.add(key, day, day + 1, 0);
                }
            }
        }
        return tellStretches();
    }

    public int either() {
        int both = 0;
        stretches.clear();
        for (int key = 0; key < KEYS; key++) {
            markBoth(key);
            for (int day = 0; day < DAYS; day++) {
                if (line.amount(day) > 0) {
                    stretches.add(key, day, day + 1, 0);
                }
                if (line.amount(day) == 3) {
                    both++;
                }
            }
        }
        told.tell(stretches.days, both);
        return stretches.size;
    }

    /** The line has 1 at days at which a key is in table 0 alone, 2 in table 1 alone, 3 in both. */
    private void markBoth(int key) {
        line.clear();
        line.addRows(now.first, key, 1);
        line.addRows(now.second, key, 2);
    }

    private int tellStretches() {
        told.tell(stretches.days);
        if (stretches.size > 0) {
            told.add(stretches.firstKey);
            told.add(stretches.firstFrom);
            told.add(stretches.firstTo);
        }
        return stretches.size;
    }

    public int sums(int table, int from, int to) {
        if (!isTable(table) || !isPeriod(from, to)) {
            return NONE;
        }
        Table source = now.table(table);
        line.clear();
        for (int i = 0; i < source.size; i++) {
            line.add(source.cell(i, FROM), source.cell(i, TO), source.cell(i, VALUE));
        }
        int sum = 0;
        int best = from;
        for (int day = from; day < to; day++) {
            sum += line.amount(day);
            if (line.amount(day) > line.amount(best)) {
                best = day;
            }
        }
        told.tell(line.amount(best), best);
        return sum;
    }

    public int mean(int table, int key) {
        if (!isTable(table) || !isKey(key)) {
            return NONE;
        }
        Table source = now.table(table);
        int days = source.daysWithin(key, 0, DAYS);
        if (days == 0) {
            return -2;
        }
        int sum = 0;
        for (int i = 0; i < source.size; i++) {
            if (source.cell(i, KEY) == key) {
                sum += source.cell(i, VALUE) * source.daysOfRow(i);
            }
        }
        int divisor = commonDivisor(sum, days);
        told.tell(sum / divisor, days / divisor, days);
        return 0;
    }

    /** At least 1, also of numbers that have none. */
    private static int commonDivisor(int a, int b) {
        int greater = a;
        int smaller = b;
        for (int turn = 0; turn < 64 && smaller != 0; turn++) {
            int rest = greater % smaller;
            greater = smaller;
            smaller = rest;
        }
        return Math.max(1, greater);
    }

    public int fullest(int table) {
        if (!isTable(table)) {
            return NONE;
        }
        Table source = now.table(table);
        line.clear();
        for (int i = 0; i < source.size; i++) {
            line.add(source.cell(i, FROM), source.cell(i, TO), 1);
        }
        int best = 0;
        int often = 0;
        for (int day = 0; day < DAYS; day++) {
            if (line.amount(day) > line.amount(best)) {
                best = day;
                often = 0;
            }
            if (line.amount(day) == line.amount(best)) {
                often++;
            }
        }
        told.tell(line.amount(best), often);
        return best;
    }

    public int spans(int table, int from, int to) {
        if (!isTable(table) || !isPeriod(from, to)) {
            return NONE;
        }
        Table source = now.table(table);
        line.clear();
        int fewest = fewestBehind(source, -1, from, to);
        if (fewest > ROWS_MOST) {
            return -2;
        }
        told.clear();
        int left = fewest;
        for (int i = 0; i < source.size && left > 0; i++) {
            if (fewestBehind(source, i, from, to) < left) {
                line.add(source.cell(i, FROM), source.cell(i, TO), 1);
                told.add(i);
                left--;
            }
        }
        return fewest;
    }

    /**
     * How few rows, numbered above i, have all days of a period that neither row i (-1: none) nor the line has:
     * the first bare day is best had by the row that goes on longest. Above ROWS_MOST: they can't.
     */
    private int fewestBehind(Table source, int i, int from, int to) {
        int used = 0;
        int day = from;
        for (int turn = 0; turn < DAYS && day < to; turn++) {
            if (line.amount(day) > 0 || source.daysOfRowWithin(i, day, day + 1) > 0) {
                day++;
            } else {
                int reach = day;
                for (int j = i + 1; j < source.size; j++) {
                    if (source.daysOfRowWithin(j, day, day + 1) > 0) {
                        reach = Math.max(reach, source.cell(j, TO));
                    }
                }
                if (reach == day) {
                    return ROWS_MOST + 1;
                }
                used++;
                day = reach;
            }
        }
        return used;
    }

    public int users(int key) {
        if (!isKey(key)) {
            return NONE;
        }
        int users = 0;
        line.clear();
        for (int i = 0; i < now.first.size; i++) {
            if (now.first.cell(i, REF) == key) {
                users++;
                line.add(now.first.cell(i, FROM), now.first.cell(i, TO), 1);
            }
        }
        int unused = 0;
        for (int j = 0; j < now.second.size; j++) {
            if (now.second.cell(j, KEY) == key
                    && line.daysMarked(now.second.cell(j, FROM), now.second.cell(j, TO)) == 0) {
                unused++;
            }
        }
        told.tell(line.daysMarked(0, DAYS), unused);
        return users;
    }

    public int drags(int key, int from, int to) {
        if (!isPortion(1, key, from, to)) {
            return NONE;
        }
        if (now.second.touching(key, from, to) == 0) {
            return -2;
        }
        int days = 0;
        int dragged = 0;
        for (int i = 0; i < now.first.size; i++) {
            int within = now.first.daysOfRowWithin(i, from, to);
            if (now.first.cell(i, REF) == key && within > 0) {
                days += within;
                dragged++;
            }
        }
        told.tell(dragged);
        return days;
    }

    // ---- conditions

    public int where(int table) {
        int fault = formula.faultOf(text);
        text.clear();
        if (fault >= 0) {
            return NO_FORMULA - fault;
        }
        if (!isTable(table)) {
            return NONE;
        }
        Table source = now.table(table);
        int bits = 0;
        int days = 0;
        int sum = 0;
        for (int i = 0; i < source.size; i++) {
            int value = formula.valueOf(source, i);
            sum += value;
            if (value > 0) {
                bits |= 1 << i;
                days += source.daysOfRow(i);
            }
        }
        told.tell(Integer.bitCount(bits), days, sum);
        return bits;
    }

    // ---- what was kept

    public int differs(int table, int i) {
        if (!isTable(table) || !isKeptNumber(i)) {
            return NONE;
        }
        if (!kept[i].isFilled) {
            return -2;
        }
        flags.clear();
        for (int key = 0; key < KEYS; key++) {
            flagDifferences(now.table(table), kept[i].table(table), key);
        }
        int often = flags.daysMarked(0, DAYS);
        told.clear();
        for (int day = 0; day < DAYS && often > 0 && told.size == 0; day++) {
            if (flags.amount(day) > 0) {
                told.add(day);
            }
        }
        return often;
    }

    /** Days at which a key is there in one of two tables alone, or has another value in each. */
    private void flagDifferences(Table one, Table other, int key) {
        line.clear();
        line.addValues(one, key, 1);
        line.addValues(other, key, -1);
        for (int day = 0; day < DAYS; day++) {
            if (line.amount(day) != 0) {
                flags.add(day, day + 1, 1);
            }
        }
    }

    // ---- which row it was (of TABLE 0)

    public int heard(int what, int v) {
        boolean known = what == OF_REF ? v == 0 || v == 1 : what >= OF_KEY && what <= OF_DAY && v >= 0 && v <= 9;
        if (!known || !rumours.add(what * 10 + v)) {
            return NONE;
        }
        return rumours.size;
    }

    public int denies() {
        int were = rumours.size;
        rumours.size = 0;
        return were;
    }

    public int fits() {
        int bits = rowsThatFit();
        told.tell(Integer.bitCount(bits));
        return bits;
    }

    public int asks() {
        int bits = rowsThatFit();
        int fitting = Integer.bitCount(bits);
        if (fitting == 0) {
            return -2;
        }
        int best = 0;
        int fewest = fitting + 1;
        for (int question = 0; question < QUESTIONS; question++) {
            int so = Integer.bitCount(bits & rowsOfWhich(question));
            int most = Math.max(so, fitting - so);
            if (most < fewest) {
                best = question;
                fewest = most;
            }
        }
        told.tell(fewest);
        return best;
    }

    private int rowsThatFit() {
        int bits = (1 << now.first.size) - 1;
        for (int k = 0; k < rumours.size; k++) {
            bits &= rowsOfWhich(rumours.questionAt(k));
        }
        return bits;
    }

    private int rowsOfWhich(int question) {
        int bits = 0;
        for (int i = 0; i < now.first.size; i++) {
            if (isSo(i, question)) {
                bits |= 1 << i;
            }
        }
        return bits;
    }

    private boolean isSo(int i, int question) {
        int v = question % 10;
        switch (question / 10) {
            case OF_KEY:
                return now.first.cell(i, KEY) == v;
            case OF_VALUE:
                return now.first.cell(i, VALUE) >= 10 * v;
            case OF_DAY:
                return now.first.daysOfRowWithin(i, 10 * v, 10 * v + 1) > 0;
            default:
                return (now.first.cell(i, REF) != NO_REF) == (v == 1);
        }
    }

    // ---- years

    public int years(int seed, int n) {
        if (n < 1 || n > YEARS_MOST) {
            return NONE;
        }
        drawn = seed;
        for (int turn = 0; turn < n; turn++) {
            doDrawnAct();
        }
        told.tell(now.first.allDays() + now.second.allDays(), now.first.fromTimesValue() + now.second.fromTimesValue());
        return now.first.size + now.second.size;
    }

    /** What is drawn can't be undone: only the calls that promise 14 names are noted in the past. */
    private void doDrawnAct() {
        int act = draw(6);
        int table = draw(2);
        int key = draw(KEYS);
        int from = draw(DAYS);
        int to = Math.min(DAYS, from + draw(20) + 1);
        switch (act) {
            case 2:
                setValue(table, key, draw(VALUES), from, to);
                break;
            case 3:
                setRef(key, draw(NO_REF + 1), from, to);
                break;
            case 4:
                cutPeriod(table, key, from, to);
                break;
            case 5:
                joinAlike(table);
                break;
            default:
                addRow(table, key, draw(VALUES), from, to);
                break;
        }
    }

    private int draw(int n) {
        drawn = drawn * 1103515245 + 12345;
        return n > 0 ? (drawn >>> 16) % n : 0;
    }

    // ---- kept

    public boolean keep(int i) {
        if (!isKeptNumber(i)) {
            return false;
        }
        kept[i].copyOf(now);
        kept[i].isFilled = true;
        return true;
    }

    public boolean again(int i) {
        if (!isKeptNumber(i) || !kept[i].isFilled) {
            return false;
        }
        now.copyOf(kept[i]);
        past.size = 0;
        return true;
    }

    public int count(int what) {
        switch (what) {
            case 0:
                return now.first.size;
            case 1:
                return now.second.size;
            case 2:
                return now.wayNumber;
            case 3:
                return now.first.allDays();
            case 4:
                return now.second.allDays();
            case 5:
                return now.first.rowsWithRef();
            case 6:
                return rumours.size;
            case 7:
                return past.size;
            case 8:
                return told.size;
            case 9:
                return text.size;
            default:
                return NO_SUCH_COUNT;
        }
    }

    public long row(int i) throws NoSuchElementException {
        if (i < 0 || i >= told.size) {
            throw new NoSuchElementException();
        }
        return told.number(i);
    }

    // What arguments have to be.

    private static boolean isTable(int table) {
        return table == 0 || table == 1;
    }

    private static boolean isKey(int key) {
        return key >= 0 && key < KEYS;
    }

    private static boolean isValue(int value) {
        return value >= 0 && value < VALUES;
    }

    private static boolean isDay(int day) {
        return day >= 0 && day < DAYS;
    }

    private static boolean isPeriod(int from, int to) {
        return isDay(from) && to > from && to <= DAYS;
    }

    private static boolean isPortion(int table, int key, int from, int to) {
        return isTable(table) && isKey(key) && isPeriod(from, to);
    }

    private static boolean isKeptNumber(int i) {
        return i >= 0 && i < KEPT_MOST;
    }

    /**
     * Rows by key, of one key by from. There is room for some more than a table may have, so that a draft with too
     * many can still be asked whether it is HELD, which comes first; those beyond the room are only counted.
     */
    private static final class Table {
        private static final int ROOM = ROWS_MOST + 4;

        private final int[] cells = new int[ROOM * CELLS];
        private int size;

        private void clear() {
            size = 0;
        }

        private void copyOf(Table source) {
            System.arraycopy(source.cells, 0, cells, 0, cells.length);
            size = source.size;
        }

        private boolean has(int i) {
            return i >= 0 && i < size && i < ROOM;
        }

        private int cell(int i, int what) {
            return has(i) && what >= 0 && what < CELLS ? cells[i * CELLS + what] : 0;
        }

        private void put(int i, int what, int v) {
            if (has(i) && what >= 0 && what < CELLS) {
                cells[i * CELLS + what] = v;
            }
        }

        private void append(int key, int value, int from, int to, int ref) {
            int start = size * CELLS;
            if (size >= 0 && size < ROOM) {
                cells[start + KEY] = key;
                cells[start + VALUE] = value;
                cells[start + FROM] = from;
                cells[start + TO] = to;
                cells[start + REF] = ref;
            }
            size++;
        }

        /** What of a row of another table lies in a period, if anything does. */
        private void appendPart(Table source, int i, int from, int to) {
            int start = Math.max(from, source.cell(i, FROM));
            int stop = Math.min(to, source.cell(i, TO));
            if (start < stop) {
                append(source.cell(i, KEY), source.cell(i, VALUE), start, stop, source.cell(i, REF));
            }
        }

        private void changeLast(int what, int v) {
            put(size - 1, what, v);
        }

        private void fillChanged(Table source, int key, int from, int to, int what, int v) {
            clear();
            for (int i = 0; i < source.size; i++) {
                if (source.touches(i, key, from, to) && source.cell(i, what) != v) {
                    appendPart(source, i, 0, from);
                    appendPart(source, i, from, to);
                    changeLast(what, v);
                    appendPart(source, i, to, DAYS);
                } else {
                    appendPart(source, i, 0, DAYS);
                }
            }
        }

        private void fillCut(Table source, int key, int from, int to) {
            clear();
            for (int i = 0; i < source.size; i++) {
                if (source.cell(i, KEY) == key) {
                    appendPart(source, i, 0, from);
                    appendPart(source, i, to, DAYS);
                } else {
                    appendPart(source, i, 0, DAYS);
                }
            }
        }

        private void fillJoined(Table source) {
            clear();
            for (int i = 0; i < source.size; i++) {
                if (source.isAlikeBefore(i)) {
                    changeLast(TO, source.cell(i, TO));
                } else {
                    appendPart(source, i, 0, DAYS);
                }
            }
        }

        /** False if a row has days then that are none: what is here is of no use then. */
        private boolean shiftRows(int key, int by) {
            boolean good = true;
            for (int i = 0; i < size; i++) {
                if (cell(i, KEY) == key) {
                    put(i, FROM, cell(i, FROM) + by);
                    put(i, TO, cell(i, TO) + by);
                    good = good && isPeriod(cell(i, FROM), cell(i, TO));
                }
            }
            return good;
        }

        private int daysOfRow(int i) {
            return cell(i, TO) - cell(i, FROM);
        }

        private int daysOfRowWithin(int i, int from, int to) {
            return Math.max(0, Math.min(to, cell(i, TO)) - Math.max(from, cell(i, FROM)));
        }

        private boolean touches(int i, int key, int from, int to) {
            return cell(i, KEY) == key && daysOfRowWithin(i, from, to) > 0;
        }

        private int touching(int key, int from, int to) {
            int touching = 0;
            for (int i = 0; i < size; i++) {
                if (touches(i, key, from, to)) {
                    touching++;
                }
            }
            return touching;
        }

        private int daysWithin(int key, int from, int to) {
            int days = 0;
            for (int i = 0; i < size; i++) {
                if (cell(i, KEY) == key) {
                    days += daysOfRowWithin(i, from, to);
                }
            }
            return days;
        }

        /** The first day from a day on at which a key is not there; rows of a key come by from. */
        private int firstBareDay(int key, int from) {
            int day = from;
            for (int i = 0; i < size; i++) {
                if (touches(i, key, day, day + 1)) {
                    day = cell(i, TO);
                }
            }
            return day;
        }

        /** The first day behind a day, at which a key is not there, at which it is; DAYS if there is none. */
        private int nextFrom(int key, int day) {
            int next = DAYS;
            for (int i = 0; i < size; i++) {
                if (cell(i, KEY) == key && cell(i, FROM) > day) {
                    next = Math.min(next, cell(i, FROM));
                }
            }
            return next;
        }

        /** The number that a row would have. */
        private int numberFor(int key, int from) {
            int number = 0;
            for (int i = 0; i < size; i++) {
                if (cell(i, KEY) < key || cell(i, KEY) == key && cell(i, FROM) < from) {
                    number++;
                }
            }
            return number;
        }

        /** Whether row i is of the key of the one ahead of it and begins where that ends. */
        private boolean followsOn(int i) {
            return i > 0 && cell(i - 1, KEY) == cell(i, KEY) && cell(i - 1, TO) == cell(i, FROM);
        }

        private boolean isAlikeBefore(int i) {
            return followsOn(i) && cell(i - 1, VALUE) == cell(i, VALUE) && cell(i - 1, REF) == cell(i, REF);
        }

        private int alikeNeighbours() {
            int alike = 0;
            for (int i = 1; i < size; i++) {
                if (isAlikeBefore(i)) {
                    alike++;
                }
            }
            return alike;
        }

        private int allDays() {
            int days = 0;
            for (int i = 0; i < size; i++) {
                days += daysOfRow(i);
            }
            return days;
        }

        private int rowsWithRef() {
            int with = 0;
            for (int i = 0; i < size; i++) {
                if (cell(i, REF) != NO_REF) {
                    with++;
                }
            }
            return with;
        }

        private int fromTimesValue() {
            int sum = 0;
            for (int i = 0; i < size; i++) {
                sum += cell(i, FROM) * cell(i, VALUE);
            }
            return sum;
        }
    }

    /** What undo() brings back: both tables and WAY. */
    private static final class State {
        private final Table first = new Table();
        private final Table second = new Table();
        private int wayNumber;
        private boolean isFilled;

        private Table table(int number) {
            return number == 0 ? first : second;
        }

        private void copyOf(State source) {
            first.copyOf(source.first);
            second.copyOf(source.second);
            wayNumber = source.wayNumber;
        }

        private boolean isHeld() {
            boolean all = true;
            for (int i = 0; i < first.size; i++) {
                int ref = first.cell(i, REF);
                int covered = second.daysWithin(ref, first.cell(i, FROM), first.cell(i, TO));
                all = all && (ref == NO_REF || covered == first.daysOfRow(i));
            }
            return all;
        }
    }

    /** A ring of states ahead of acts; one slot more, for an act of which it is not known yet whether it is done. */
    private static final class Past {
        private static final int ACTS_MOST = 10;
        private static final int SLOTS = ACTS_MOST + 1;

        private final State[] states = new State[SLOTS];
        private int start;
        private int size;

        private Past() {
            for (int i = 0; i < SLOTS; i++) {
                states[i] = new State();
            }
        }

        private State slot(int i) {
            return states[Math.floorMod(start + i, SLOTS)];
        }

        private void prepare(State state) {
            slot(size).copyOf(state);
        }

        private void confirm() {
            if (size < ACTS_MOST) {
                size++;
            } else {
                start = Math.floorMod(start + 1, SLOTS);
            }
        }
    }

    /** THE TEXT. */
    private static final class Text {
        private static final int SIGNS_MOST = 80;
        private static final int NO_SIGN = -1;

        private final char[] signs = new char[SIGNS_MOST];
        private int size;

        private void clear() {
            size = 0;
        }

        private boolean appendFour(int v) {
            if (size + 4 > SIGNS_MOST) {
                return false;
            }
            for (int i = 0; i < 4; i++) {
                signs[size] = (char) (v >>> (24 - 8 * i) & 255);
                size++;
            }
            return true;
        }

        private int signAt(int place) {
            return place >= 0 && place < size && place < SIGNS_MOST ? signs[place] : NO_SIGN;
        }

        private int digitAt(int place) {
            int sign = signAt(place);
            return sign >= '0' && sign <= '9' ? sign - '0' : 0;
        }

        private int pairAt(int place) {
            return 10 * digitAt(place) + digitAt(place + 1);
        }

        private int toAt(int place) {
            int to = pairAt(place);
            return to == 0 ? DAYS : to;
        }

        /** The greatest digit that may stand at each place behind the letter of an act; empty: no such act. */
        private static String formOf(int letter) {
            switch (letter) {
                case 'a':
                case 's':
                    return "19999999";
                case 'r':
                    return "9999999";
                case 'c':
                    return "199999";
                case 'j':
                    return "1";
                case 'w':
                    return "2";
                default:
                    return "";
            }
        }

        /** The first place whose sign can't stand there in a day's work (or its end); NO_SIGN: all can. */
        private int faultOfWork() {
            int place = 0;
            for (int turn = 0; turn < SIGNS_MOST && place < size; turn++) {
                String form = formOf(signAt(place));
                if (form.isEmpty()) {
                    return place;
                }
                for (int i = 0; i < form.length(); i++) {
                    place++;
                    if (signAt(place) < '0' || signAt(place) > form.charAt(i)) {
                        return place;
                    }
                }
                place++;
            }
            return NO_SIGN;
        }
    }

    /** The ROW. */
    private static final class Told {
        private static final int NUMBERS_MOST = 12;

        private final long[] numbers = new long[NUMBERS_MOST];
        private int size;

        private void clear() {
            size = 0;
        }

        /** Numbers beyond the twelfth are not told. */
        private void add(long number) {
            if (size >= 0 && size < NUMBERS_MOST) {
                numbers[size] = number;
                size++;
            }
        }

        private void tell(long one) {
            clear();
            add(one);
        }

        private void tell(long one, long two) {
            tell(one);
            add(two);
        }

        private void tell(long one, long two, long three) {
            tell(one, two);
            add(three);
        }

        private long number(int i) {
            return i >= 0 && i < size && i < NUMBERS_MOST ? numbers[i] : 0;
        }
    }

    /** What was heard, as numbers of questions. */
    private static final class Rumours {
        private static final int RUMOURS_MOST = 12;

        private final int[] questions = new int[RUMOURS_MOST];
        private int size;

        private boolean add(int question) {
            if (size < 0 || size >= RUMOURS_MOST) {
                return false;
            }
            questions[size] = question;
            size++;
            return true;
        }

        private int questionAt(int i) {
            return i >= 0 && i < size && i < RUMOURS_MOST ? questions[i] : 0;
        }
    }

    /** An amount for each day. */
    private static final class Line {
        private final int[] amounts = new int[DAYS];

        private void clear() {
            for (int day = 0; day < DAYS; day++) {
                amounts[day] = 0;
            }
        }

        private int amount(int day) {
            return isDay(day) ? amounts[day] : 0;
        }

        private void add(int from, int to, int amount) {
            for (int day = Math.max(0, from); day < to && day < DAYS; day++) {
                amounts[day] += amount;
            }
        }

        private void addRows(Table table, int key, int amount) {
            for (int i = 0; i < table.size; i++) {
                if (table.cell(i, KEY) == key) {
                    add(table.cell(i, FROM), table.cell(i, TO), amount);
                }
            }
        }

        /** Values and 1 each, so that a value 0 is told from no row. */
        private void addValues(Table table, int key, int times) {
            for (int i = 0; i < table.size; i++) {
                if (table.cell(i, KEY) == key) {
                    add(table.cell(i, FROM), table.cell(i, TO), times * (table.cell(i, VALUE) + 1));
                }
            }
        }

        private int daysMarked(int from, int to) {
            int days = 0;
            for (int day = from; day < to; day++) {
                if (amount(day) != 0) {
                    days++;
                }
            }
            return days;
        }

        /** Where the stretch of days of one amount that begins at a day ends, at most at to. */
        private int stretchEnd(int start, int to) {
            int stop = start + 1;
            for (int day = start + 1; day < to && amount(day) == amount(start); day++) {
                stop = day + 1;
            }
            return stop;
        }
    }

    /** Stretches of days that come by key and from: those that go on with the same key and mark are one. */
    private static final class Stretches {
        private int size;
        private int days;
        private int firstKey;
        private int firstFrom;
        private int firstTo;
        private int lastKey;
        private int lastTo;
        private int lastMark;

        private void clear() {
            size = 0;
            days = 0;
        }

        private void add(int key, int from, int to, int mark) {
            boolean goesOn = size > 0 && key == lastKey && from == lastTo && mark == lastMark;
            if (!goesOn) {
                size++;
            }
            if (!goesOn && size == 1) {
                firstKey = key;
                firstFrom = from;
            }
            if (size == 1) {
                firstTo = to;
            }
            days += to - from;
            lastKey = key;
            lastTo = to;
            lastMark = mark;
        }
    }

    /** THE TEXT as a condition: it is read anew for each row. */
    private static final class Formula {
        private static final int SIGNS_MOST = 40;
        private static final int DEPTH_MOST = 4;
        private static final int DIGITS_MOST = 3;
        private static final int FINE = -1;
        // The cells in their order, then how many days, then the row's number.
        private static final String LETTERS = "kvftrli";
        private static final int THINGS = CELLS + 2;

        private final char[] signs = new char[SIGNS_MOST];
        private final int[] things = new int[THINGS];
        private int size;
        private int place;
        private int fault;

        /** The first place whose sign can't stand there (or its end); FINE: all can. */
        private int faultOf(Text text) {
            size = Math.min(SIGNS_MOST, text.size);
            for (int i = 0; i < size; i++) {
                signs[i] = (char) text.signAt(i);
            }
            rewind();
            comparison(0);
            if (fault == FINE && place < text.size) {
                fault = place;
            }
            return fault;
        }

        private int valueOf(Table table, int i) {
            for (int what = 0; what < CELLS; what++) {
                things[what] = table.cell(i, what);
            }
            things[CELLS] = table.daysOfRow(i);
            things[CELLS + 1] = i;
            rewind();
            return comparison(0);
        }

        private void rewind() {
            place = 0;
            fault = FINE;
        }

        private int peek() {
            return fault == FINE && place < size && place < SIGNS_MOST ? signs[place] : Text.NO_SIGN;
        }

        private void fail() {
            if (fault == FINE) {
                fault = place;
            }
        }

        private int comparison(int depth) {
            int left = sum(depth);
            int sign = peek();
            if (sign != '<' && sign != '>' && sign != '=') {
                return left;
            }
            place++;
            int right = sum(depth);
            boolean so = sign == '<' ? left < right : sign == '>' ? left > right : left == right;
            return so ? 1 : 0;
        }

        private int sum(int depth) {
            int total = product(depth);
            for (int turn = 0; turn < SIGNS_MOST && (peek() == '+' || peek() == '-'); turn++) {
                boolean plus = peek() == '+';
                place++;
                int next = product(depth);
                total = plus ? total + next : total - next;
            }
            return total;
        }

        private int product(int depth) {
            int total = thing(depth);
            for (int turn = 0; turn < SIGNS_MOST && (peek() == '*' || peek() == '/'); turn++) {
                boolean times = peek() == '*';
                place++;
                int next = thing(depth);
                total = times ? total * next : next == 0 ? 0 : total / next;
            }
            return total;
        }

        private int thing(int depth) {
            boolean negative = false;
            for (int turn = 0; turn < SIGNS_MOST && peek() == '-'; turn++) {
                negative = !negative;
                place++;
            }
            int sign = peek();
            int value;
            if (sign >= '0' && sign <= '9') {
                value = digits();
            } else if (sign == '(' && depth < DEPTH_MOST) {
                place++;
                value = comparison(depth + 1);
                if (peek() != ')') {
                    fail();
                }
                place++;
            } else {
                value = ofRow(sign);
            }
            return negative ? -value : value;
        }

        private int digits() {
            int value = 0;
            for (int turn = 0; turn < DIGITS_MOST && peek() >= '0' && peek() <= '9'; turn++) {
                value = value * 10 + peek() - '0';
                place++;
            }
            return value;
        }

        private int ofRow(int letter) {
            int which = letter == Text.NO_SIGN ? -1 : LETTERS.indexOf((char) letter);
            if (which < 0 || which >= THINGS) {
                fail();
                return 0;
            }
            place++;
            return things[which];
        }
    }
}
