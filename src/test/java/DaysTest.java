/** Promises 15 to 23: at, slice, gaps, covers, lies, changes, rows, longest, free. */
public final class DaysTest {
    public static void main(String[] args) {
        at();
        slice();
        gaps();
        covers();
        lies();
        changes();
        changesBeyondTwelve();
        rows();
        longest();
        free();
        wrong();
        Due.finish("DaysTest");
    }

    private static PeriodTables some() {
        PeriodTables x = new PeriodTables();
        x.adds(1, 6, 60, 0, 40);
        x.adds(1, 6, 61, 40, 100);
        x.adds(0, 3, 0, 10, 20);
        x.adds(0, 3, 31, 20, 30);
        x.adds(0, 3, 32, 35, 40);
        x.adds(0, 9, 90, 39, 100);
        x.adds(0, 0, 5, 0, 1);
        x.refers(3, 6, 20, 30);
        return x;
    }

    private static void at() {
        PeriodTables x = some();
        Due.is("at its first day", 0, x.at(0, 3, 10));
        Due.row(x, "at()", 10, 10, 20);
        Due.is("at its last day", 31, x.at(0, 3, 29));
        Due.row(x, "at()", 6, 20, 30);
        Due.is("behind it", -2, x.at(0, 3, 30));
        Due.is("ahead of it", -2, x.at(0, 3, 9));
        Due.row(x, "at() of nothing", 6, 20, 30);
        Due.is("TABLE 1", 61, x.at(1, 6, 99));
        Due.row(x, "at()", 10, 40, 100);
        Due.is("day 0", 5, x.at(0, 0, 0));
        Due.row(x, "at()", 10, 0, 1);
    }

    private static void slice() {
        PeriodTables x = some();
        Due.is("two keys", 1 << 3 | 1 << 9, x.slice(0, 39));
        Due.row(x, "slice()", 32, 90);
        Due.is("one key", 1 << 9, x.slice(0, 40));
        Due.row(x, "slice()", 90);
        Due.is("no key", 0, x.slice(0, 5));
        Due.row(x, "slice()");
        Due.is("day 99 of TABLE 1", 1 << 6, x.slice(1, 99));
        Due.row(x, "slice()", 61);
        for (int key = 0; key < 10; key++) {
            x.adds(1, key, key * 10, 0, 10);
        }
        x.cuts(1, 6, 0, 10);
        x.adds(1, 6, 6, 0, 10);
        Due.is("all keys", 1023, x.slice(1, 9));
        Due.row(x, "slice()", 0, 10, 20, 30, 40, 50, 6, 70, 80, 90);
    }

    private static void gaps() {
        PeriodTables x = some();
        Due.is("all through", 75, x.gaps(0, 3, 0, 100));
        Due.row(x, "gaps()", 0, 10);
        Due.is("from within", 65, x.gaps(0, 3, 15, 100));
        Due.row(x, "gaps()", 30, 35);
        Due.is("one day of it", 1, x.gaps(0, 3, 31, 32));
        Due.row(x, "gaps()", 31, 32);
        Due.is("none", 0, x.gaps(0, 3, 10, 30));
        Due.row(x, "gaps()");
        Due.is("at the end", 5, x.gaps(0, 3, 38, 45));
        Due.row(x, "gaps()", 40, 45);
        Due.is("at day 9", 1, x.gaps(0, 3, 9, 11));
        Due.row(x, "gaps()", 9, 10);
        Due.is("never there", 100, x.gaps(1, 3, 0, 100));
        Due.row(x, "gaps()", 0, 100);
        Due.is("behind the first ROW", 99, x.gaps(0, 0, 0, 100));
        Due.row(x, "gaps()", 1, 100);
        x.shifts(0, 0, 5);
        Due.is("ahead of the first ROW", 99, x.gaps(0, 0, 0, 100));
        Due.row(x, "gaps()", 0, 5);
    }

    private static void covers() {
        PeriodTables x = some();
        Due.is("by two rows", 1, x.covers(6, 0, 100));
        Due.row(x, "covers()", 2);
        Due.is("by one", 1, x.covers(6, 39, 40));
        Due.row(x, "covers()", 1);
        Due.is("never there", 0, x.covers(3, 10, 20));
        Due.row(x, "covers()", 0);
        x.way(2);
        x.cuts(1, 6, 50, 51);
        Due.is("a day is not", 0, x.covers(6, 0, 100));
        Due.row(x, "covers()", 3);
        Due.is("up to it", 1, x.covers(6, 30, 50));
        Due.is("from it on", 0, x.covers(6, 50, 60));
        Due.row(x, "covers()", 1);
        Due.is("behind it", 1, x.covers(6, 51, 100));
    }

    /** The one row of TABLE 0 to the one of TABLE 1, and the other way round. */
    private static void lie(int f, int t, int otherF, int otherT, int want, int back, int both) {
        PeriodTables x = new PeriodTables();
        x.adds(0, 0, 0, f, t);
        x.adds(1, 0, 0, otherF, otherT);
        String call = f + ".." + t + " to " + otherF + ".." + otherT;
        Due.is(call, want, x.lies(0, 0, 1, 0));
        Due.row(x, call, both);
        Due.is("back: " + call, back, x.lies(1, 0, 0, 0));
        Due.row(x, call, both);
    }

    private static void lies() {
        lie(0, 10, 11, 20, 0, 12, 0);
        lie(0, 10, 10, 20, 1, 11, 0);
        lie(0, 11, 10, 20, 2, 10, 1);
        lie(10, 15, 10, 20, 3, 9, 5);
        lie(11, 19, 10, 20, 4, 8, 8);
        lie(15, 20, 10, 20, 5, 7, 5);
        lie(10, 20, 10, 20, 6, 6, 10);
        lie(0, 100, 99, 100, 7, 5, 1);
        lie(0, 100, 0, 1, 9, 3, 1);
        lie(0, 100, 1, 99, 8, 4, 98);
        PeriodTables x = some();
        Due.is("in one TABLE", 1, x.lies(0, 1, 0, 2));
        Due.is("to itself", 6, x.lies(0, 1, 0, 1));
        Due.row(x, "lies()", 10);
        Due.is("no ROW", -1, x.lies(0, 5, 0, 0));
        Due.is("no ROW", -1, x.lies(0, 0, 0, -1));
        Due.is("no ROW", -1, x.lies(0, 0, 1, 2));
        Due.row(x, "lies() of none", 10);
        for (int bad : Wrong.TABLES) {
            Due.is("no TABLE", -1, x.lies(bad, 0, 0, 0));
            Due.is("no TABLE", -1, x.lies(0, 0, bad, 0));
            Due.is("no ROW", -1, x.lies(0, bad == 2 ? 9 : bad, 0, 0));
        }
    }

    private static void changes() {
        PeriodTables x = some();
        Due.is("from 0 to 31, then a gap", 1, x.changes(0, 3));
        Due.row(x, "changes()", 20);
        Due.is("TABLE 1", 1, x.changes(1, 6));
        Due.row(x, "changes()", 40);
        Due.is("none", 0, x.changes(0, 9));
        Due.row(x, "changes()");
        x.refers(3, 10, 25, 30);
        x.sets(0, 3, 32, 12, 15);
        Due.is("REF is no VALUE", 3, x.changes(0, 3));
        Due.row(x, "changes()", 12, 15, 20);
        x.adds(0, 1, 8, 0, 50);
        x.adds(0, 2, 9, 50, 60);
        Due.is("another KEY is none", 0, x.changes(0, 2));
    }

    private static void changesBeyondTwelve() {
        PeriodTables x = new PeriodTables();
        for (int i = 0; i < 16; i++) {
            x.adds(0, 4, i, 5 * i, 5 * i + 5);
        }
        Due.is("15", 15, x.changes(0, 4));
        Due.row(x, "changes()", 5, 10, 15, 20, 25, 30, 35, 40, 45, 50, 55, 60);
    }

    private static void rows() {
        PeriodTables x = some();
        Due.is("rows of TABLE 0", 5, x.rows(0));
        Due.row(x, "rows()", 5, 87);
        x.sets(0, 3, 0, 20, 30);
        Due.is("REF is another one", 5, x.rows(0));
        Due.row(x, "rows()", 5, 87);
        x.refers(3, 10, 20, 30);
        x.sets(1, 6, 60, 0, 100);
        Due.is("alike neighbours", 5, x.rows(0));
        Due.row(x, "rows()", 4, 87);
        Due.is("of TABLE 1", 2, x.rows(1));
        Due.row(x, "rows()", 1, 100);
        Due.is("nothing was joined", 2, x.count(1));
    }

    private static void longest() {
        PeriodTables x = some();
        Due.is("of TABLE 0", 4, x.longest(0));
        Due.row(x, "longest()", 61);
        Due.is("of TABLE 1", 1, x.longest(1));
        Due.row(x, "longest()", 60);
        x.cuts(0, 9, 0, 100);
        Due.is("of as many the least", 1, x.longest(0));
        Due.row(x, "longest()", 10);
        x = new PeriodTables();
        x.rows(0);
        Due.is("there is none", -2, x.longest(1));
        Due.row(x, "longest() of none", 0, 0);
    }

    private static void free() {
        PeriodTables x = some();
        Due.is("at once", 0, x.free(0, 3, 0, 10));
        Due.is("in the gap", 30, x.free(0, 3, 6, 5));
        Due.is("in the gap, which begins later", 30, x.free(0, 3, 10, 5));
        Due.is("behind the gap", 40, x.free(0, 3, 31, 5));
        Due.is("behind all", 40, x.free(0, 3, 0, 60));
        Due.is("not so many", -2, x.free(0, 3, 0, 61));
        Due.is("in the gap's end", 34, x.free(0, 3, 34, 1));
        Due.is("all", 0, x.free(1, 0, 0, 100));
        Due.is("not from 1 on", -2, x.free(1, 0, 1, 100));
        Due.is("the last day", 99, x.free(1, 0, 99, 1));
        Due.is("beyond it", -2, x.free(1, 0, 99, 2));
        Due.is("always there", -2, x.free(1, 6, 0, 1));
        Due.is("n 0", -1, x.free(0, 3, 0, 0));
        Due.is("n 101", -1, x.free(0, 3, 0, 101));
        Due.is("n below 0", -1, x.free(0, 3, 0, Integer.MIN_VALUE));
        Due.is("n far above", -1, x.free(0, 3, 99, Integer.MAX_VALUE));
        Due.row(x, "free() tells none; refers() told", 5);
    }

    private static void wrong() {
        PeriodTables x = some();
        x.longest(1);
        for (int bad : Wrong.TABLES) {
            Due.is("at() TABLE", -1, x.at(bad, 0, 0));
            Due.is("slice() TABLE", -1, x.slice(bad, 0));
            Due.is("gaps() TABLE", -1, x.gaps(bad, 0, 0, 1));
            Due.is("changes() TABLE", -1, x.changes(bad, 0));
            Due.is("rows() TABLE", -1, x.rows(bad));
            Due.is("longest() TABLE", -1, x.longest(bad));
            Due.is("free() TABLE", -1, x.free(bad, 0, 0, 1));
        }
        for (int bad : Wrong.KEYS) {
            Due.is("at() KEY", -1, x.at(0, bad, 0));
            Due.is("gaps() KEY", -1, x.gaps(0, bad, 0, 1));
            Due.is("covers() KEY", -1, x.covers(bad, 0, 1));
            Due.is("changes() KEY", -1, x.changes(0, bad));
            Due.is("free() KEY", -1, x.free(0, bad, 0, 1));
        }
        for (int bad : Wrong.DAYS) {
            Due.is("at() DAY", -1, x.at(0, 0, bad));
            Due.is("slice() DAY", -1, x.slice(0, bad));
            Due.is("free() DAY", -1, x.free(0, 0, bad, 1));
        }
        for (int[] bad : Wrong.PERIODS) {
            Due.is("gaps() PERIOD", -1, x.gaps(0, 0, bad[0], bad[1]));
            Due.is("covers() PERIOD", -1, x.covers(0, bad[0], bad[1]));
        }
        Due.row(x, "what was refused", 60);
    }
}
