/** Promises 6 to 12: adds, sets, refers, cuts, shifts, joins, way. */
public final class ActsTest {
    public static void main(String[] args) {
        adds();
        sets();
        refers();
        cuts();
        cutsByWay();
        shifts();
        shiftsByWay();
        joins();
        way();
        tooManyRows();
        tooManyByWay();
        farTooMany();
        wrongArguments();
        Due.finish("ActsTest");
    }

    private static void adds() {
        PeriodTables x = new PeriodTables();
        x.mean(0, 0);
        Due.is("the first", 0, x.adds(0, 5, 1, 50, 60));
        Due.is("ahead of it by KEY", 0, x.adds(0, 4, 2, 90, 100));
        Due.is("ahead of it by FROM", 1, x.adds(0, 5, 3, 40, 50));
        Due.is("behind it", 3, x.adds(0, 5, 0, 60, 61));
        Due.is("a day in common", -2, x.adds(0, 5, 3, 59, 70));
        Due.is("a day in common", -2, x.adds(0, 5, 3, 0, 41));
        Due.is("all of it in common", -2, x.adds(0, 5, 3, 52, 53));
        Due.is("all around", -2, x.adds(0, 5, 3, 0, 100));
        Due.is("the other TABLE", 0, x.adds(1, 5, 99, 0, 100));
        Due.table(x, "behind adds()", 0, 4, 2, 90, 100, 10, 5, 3, 40, 50, 10, 5, 1, 50, 60, 10, 5, 0, 60, 61, 10);
        Due.table(x, "behind adds()", 1, 5, 99, 0, 100, 10);
        Due.row(x, "adds() tells none");
    }

    private static void sets() {
        PeriodTables x = new PeriodTables();
        x.adds(1, 3, 1, 0, 100);
        x.adds(0, 3, 10, 10, 20);
        x.adds(0, 3, 20, 20, 30);
        x.adds(0, 3, 30, 40, 50);
        x.adds(0, 4, 10, 0, 100);
        x.refers(3, 3, 10, 25);
        Due.is("none has days in it", -2, x.sets(0, 3, 5, 30, 40));
        Due.is("three rows, one left as it is", 4, x.sets(0, 3, 20, 15, 45));
        Due.row(x, "sets()", 7);
        Due.table(x, "behind sets()", 0, 3, 10, 10, 15, 3, 3, 20, 15, 20, 3, 3, 20, 20, 25, 3, 3, 20, 25, 30, 10,
                3, 20, 40, 45, 10, 3, 30, 45, 50, 10, 4, 10, 0, 100, 10);
        Due.is("within a row", 1, x.sets(0, 4, 11, 50, 60));
        Due.row(x, "sets()", 9);
        int undoable = x.count(7);
        Due.is("nothing becomes another", 1, x.sets(0, 4, 11, 55, 57));
        Due.row(x, "sets()", 9);
        Due.is("it can be undone all the same", Math.min(10, undoable + 1), x.count(7));
        Due.is("in TABLE 1", 1, x.sets(1, 3, 2, 0, 1));
        Due.table(x, "behind sets()", 1, 3, 2, 0, 1, 10, 3, 1, 1, 100, 10);
        Due.is("the whole of a row", 1, x.sets(1, 3, 0, 0, 1));
        Due.table(x, "behind sets()", 1, 3, 0, 0, 1, 10, 3, 1, 1, 100, 10);
    }

    private static void refers() {
        PeriodTables x = new PeriodTables();
        x.adds(0, 1, 10, 10, 20);
        x.adds(0, 1, 20, 20, 30);
        x.adds(1, 7, 1, 5, 15);
        x.adds(1, 7, 2, 15, 25);
        Due.is("none has days in it", -2, x.refers(1, 7, 30, 40));
        Due.is("not there", -3, x.refers(1, 7, 10, 26));
        Due.is("another KEY is not there", -3, x.refers(1, 8, 10, 11));
        Due.is("by two rows, beyond what is there", 2, x.refers(1, 7, 0, 25));
        Due.row(x, "refers()", 3);
        Due.table(x, "behind refers()", 0, 1, 10, 10, 20, 7, 1, 20, 20, 25, 7, 1, 20, 25, 30, 10);
        Due.is("left as it is", 1, x.refers(1, 7, 12, 14));
        Due.row(x, "refers()", 3);
        Due.is("to none", 2, x.refers(1, 10, 18, 22));
        Due.row(x, "refers()", 5);
        Due.table(x, "behind refers()", 0, 1, 10, 10, 18, 7, 1, 10, 18, 20, 10, 1, 20, 20, 22, 10, 1, 20, 22, 25, 7,
                1, 20, 25, 30, 10);
    }

    private static PeriodTables referring() {
        PeriodTables x = new PeriodTables();
        x.adds(1, 7, 1, 0, 30);
        x.adds(1, 7, 2, 30, 60);
        x.adds(0, 1, 10, 10, 50);
        x.adds(0, 2, 20, 20, 40);
        x.adds(0, 3, 30, 0, 100);
        x.refers(1, 7, 10, 50);
        x.refers(2, 7, 20, 40);
        return x;
    }

    private static void cuts() {
        PeriodTables x = referring();
        Due.is("none has days in it", -2, x.cuts(0, 1, 50, 60));
        Due.is("none has days in it", -2, x.cuts(1, 8, 0, 100));
        Due.is("refused beneath a reference", -3, x.cuts(1, 7, 49, 60));
        Due.is("not beneath one", 1, x.cuts(1, 7, 50, 100));
        Due.row(x, "cuts()", 10, 0);
        Due.is("ahead of one", 1, x.cuts(1, 7, 0, 10));
        Due.row(x, "cuts()", 10, 0);
        Due.table(x, "behind cuts()", 1, 7, 1, 10, 30, 10, 7, 2, 30, 50, 10);
        Due.is("in the middle of a row", 1, x.cuts(0, 3, 40, 45));
        Due.row(x, "cuts()", 5, 0);
        Due.is("several rows", 2, x.cuts(0, 3, 30, 50));
        Due.row(x, "cuts()", 15, 0);
        Due.is("a row with a REF", 1, x.cuts(0, 1, 0, 20));
        Due.row(x, "cuts()", 10, 0);
        Due.is("all of a row", 1, x.cuts(0, 2, 20, 40));
        Due.table(x, "behind cuts()", 0, 1, 10, 20, 50, 7, 3, 30, 0, 30, 10, 3, 30, 50, 100, 10);
        Due.row(x, "cuts()", 20, 0);
        Due.is("refused", -3, x.cuts(1, 7, 29, 31));
        Due.row(x, "what was refused", 20, 0);
    }

    private static void cutsByWay() {
        PeriodTables x = referring();
        x.way(1);
        Due.is("cut along", 2, x.cuts(1, 7, 25, 35));
        Due.row(x, "cuts() by WAY 1", 10, 20);
        Due.table(x, "by WAY 1", 0, 1, 10, 10, 25, 7, 1, 10, 35, 50, 7, 2, 20, 20, 25, 7, 2, 20, 35, 40, 7,
                3, 30, 0, 100, 10);
        Due.table(x, "by WAY 1", 1, 7, 1, 0, 25, 10, 7, 2, 35, 60, 10);
        Due.is("cut along, all of two rows", 1, x.cuts(1, 7, 35, 70));
        Due.row(x, "cuts() by WAY 1", 25, 20);
        Due.table(x, "by WAY 1", 0, 1, 10, 10, 25, 7, 2, 20, 20, 25, 7, 3, 30, 0, 100, 10);
        x = referring();
        x.way(2);
        Due.is("let go", 2, x.cuts(1, 7, 25, 35));
        Due.row(x, "cuts() by WAY 2", 10, 20);
        Due.table(x, "by WAY 2", 0, 1, 10, 10, 25, 7, 1, 10, 25, 35, 10, 1, 10, 35, 50, 7, 2, 20, 20, 25, 7,
                2, 20, 25, 35, 10, 2, 20, 35, 40, 7, 3, 30, 0, 100, 10);
        Due.is("what has gone is not let go again", 1, x.cuts(1, 7, 20, 26));
        Due.row(x, "cuts() by WAY 2", 5, 10);
        Due.is("cuts() of TABLE 0 ask no WAY", 3, x.cuts(0, 1, 0, 30));
        Due.row(x, "cuts()", 20, 0);
        x = referring();
        x.way(2);
        x.cuts(0, 2, 0, 100);
        x.cuts(1, 7, 20, 21);
        x.cuts(1, 7, 22, 23);
        Due.row(x, "cuts() of one day", 1, 1);
        Due.table(x, "of one day each", 0, 1, 10, 10, 20, 7, 1, 10, 20, 21, 10, 1, 10, 21, 22, 7, 1, 10, 22, 23, 10,
                1, 10, 23, 50, 7, 3, 30, 0, 100, 10);
    }

    private static void shifts() {
        PeriodTables x = new PeriodTables();
        x.adds(0, 2, 1, 10, 20);
        x.adds(0, 2, 2, 20, 40);
        x.adds(0, 3, 3, 0, 100);
        x.adds(1, 5, 3, 15, 30);
        x.rows(0);
        Due.is("there is none", -2, x.shifts(0, 4, 1));
        Due.is("ahead of day 0", -3, x.shifts(0, 2, -11));
        Due.is("behind day 99", -3, x.shifts(0, 2, 61));
        Due.is("to day 0", 2, x.shifts(0, 2, -10));
        Due.table(x, "behind shifts()", 0, 2, 1, 0, 10, 10, 2, 2, 10, 30, 10, 3, 3, 0, 100, 10);
        Due.is("to day 99", 2, x.shifts(0, 2, 70));
        Due.table(x, "behind shifts()", 0, 2, 1, 70, 80, 10, 2, 2, 80, 100, 10, 3, 3, 0, 100, 10);
        Due.row(x, "shifts() tells none", 3, 130);
        x.cuts(0, 2, 0, 100);
        x.adds(0, 2, 1, 20, 25);
        x.refers(2, 5, 20, 25);
        Due.is("not there any more", -4, x.shifts(0, 2, 6));
        Due.is("not there, of TABLE 1", -4, x.shifts(1, 5, 6));
        Due.is("still there", 1, x.shifts(0, 2, 5));
        Due.is("still there, of TABLE 1", 1, x.shifts(1, 5, 10));
        x.way(1);
        Due.is("WAY is not for TABLE 0", -4, x.shifts(0, 2, -1));
        Due.is("99 days", 1, onlyRow(0, 1).shifts(0, 0, 99));
        Due.is("-99 days", 1, onlyRow(99, 100).shifts(0, 0, -99));
    }

    private static PeriodTables onlyRow(int from, int to) {
        PeriodTables x = new PeriodTables();
        x.adds(0, 0, 0, from, to);
        return x;
    }

    private static void shiftsByWay() {
        PeriodTables x = new PeriodTables();
        x.adds(1, 5, 1, 10, 20);
        x.adds(1, 5, 2, 20, 30);
        x.adds(1, 5, 3, 40, 50);
        x.adds(0, 1, 9, 12, 28);
        x.adds(0, 1, 8, 40, 48);
        x.refers(1, 5, 0, 100);
        x.cuts(1, 5, 30, 32);
        x.keep(0);
        x.way(1);
        Due.is("shifted, cut along", 3, x.shifts(1, 5, 5));
        Due.table(x, "by WAY 1", 1, 5, 1, 15, 25, 10, 5, 2, 25, 35, 10, 5, 3, 45, 55, 10);
        Due.table(x, "by WAY 1", 0, 1, 9, 15, 28, 5, 1, 8, 45, 48, 5);
        x.again(0);
        x.way(2);
        Due.is("shifted, let go", 3, x.shifts(1, 5, -10));
        Due.table(x, "by WAY 2", 0, 1, 9, 12, 20, 5, 1, 9, 20, 28, 10, 1, 8, 40, 48, 10);
        x.undo();
        Due.is("shifted, let go at both ends", 3, x.shifts(1, 5, 25));
        Due.table(x, "by WAY 2", 0, 1, 9, 12, 28, 10, 1, 8, 40, 48, 5);
    }

    private static void joins() {
        PeriodTables x = new PeriodTables();
        for (int i = 0; i < 5; i++) {
            x.adds(0, 1, 7, 10 * i, 10 * i + 10);
        }
        x.adds(0, 1, 7, 55, 60);
        x.adds(0, 2, 7, 60, 70);
        x.adds(1, 1, 7, 0, 5);
        x.adds(1, 1, 7, 5, 10);
        x.refers(1, 1, 0, 10);
        x.sets(0, 1, 8, 40, 50);
        Due.is("joins(0)", 2, x.joins(0));
        Due.table(x, "behind joins()", 0, 1, 7, 0, 10, 1, 1, 7, 10, 40, 10, 1, 8, 40, 50, 10, 1, 7, 55, 60, 10,
                2, 7, 60, 70, 10);
        Due.is("the other TABLE is left alone", 2, x.count(1));
        Due.is("joins(1)", 1, x.joins(1));
        Due.table(x, "behind joins()", 1, 1, 7, 0, 10, 10);
        Due.is("nothing to join", 0, x.joins(1));
        Due.row(x, "joins() tells none; sets() told", 7);
    }

    private static void way() {
        PeriodTables x = new PeriodTables();
        Due.is("it is so", -2, x.way(0));
        Due.is("from 0", 10, x.way(2));
        Due.is("from 2", 12, x.way(1));
        Due.is("from 1", 11, x.way(0));
        Due.is("no WAY", -1, x.way(3));
        Due.is("no WAY", -1, x.way(-1));
        Due.is("WAY", 0, x.count(2));
    }

    /** 20 rows in each table, of keys 0 .. 9: at days 0 .. 9 and 10 .. 19. */
    private static PeriodTables full() {
        PeriodTables x = new PeriodTables();
        for (int i = 0; i < 40; i++) {
            x.adds(i / 20, i / 2 % 10, 50, i % 2 * 10, i % 2 * 10 + 10);
        }
        return x;
    }

    private static void tooManyRows() {
        PeriodTables x = full();
        Due.is("20 rows", 20, x.count(0));
        x.rows(1);
        Due.is("the 21st", -9, x.adds(0, 0, 1, 30, 40));
        Due.is("not ONCE comes first", -2, x.adds(0, 0, 1, 0, 40));
        Due.is("sets() that splits", -9, x.sets(0, 0, 1, 5, 10));
        Due.is("sets() that splits in three", -9, x.sets(0, 0, 1, 5, 6));
        Due.is("refers() that splits", -9, x.refers(0, 3, 5, 10));
        Due.is("refers() that splits in three", -9, x.refers(9, 0, 12, 15));
        Due.is("cuts() that splits", -9, x.cuts(0, 0, 5, 6));
        Due.is("cuts() that splits, of TABLE 1", -9, x.cuts(1, 0, 5, 6));
        Due.row(x, "what was refused", 10, 200);
        Due.is("cuts() that does not split", 1, x.cuts(0, 0, 5, 10));
        Due.is("a split and an end", 2, x.cuts(0, 1, 9, 20));
        Due.is("19 then", 19, x.count(0));
        Due.is("to 20", 1, x.sets(0, 2, 1, 5, 10));
        Due.is("20 then", 20, x.count(0));
    }

    private static void tooManyByWay() {
        PeriodTables x = full();
        x.refers(0, 0, 0, 20);
        Due.is("not HELD ahead of too many", -3, x.cuts(1, 0, 5, 6));
        Due.is("it would be HELD", -9, x.refers(1, 3, 2, 7));
        x.cuts(1, 3, 5, 20);
        Due.is("not HELD ahead of too many", -3, x.refers(1, 3, 2, 7));
        x.cuts(1, 9, 0, 100);
        x.way(1);
        Due.is("TABLE 0 would have too many by WAY 1", -9, x.cuts(1, 0, 5, 6));
        x.way(2);
        Due.is("TABLE 0 would have too many by WAY 2", -9, x.cuts(1, 0, 0, 1));
        Due.is("TABLE 0 would have too many by WAY 2", -9, x.shifts(1, 0, 1));
        Due.is("it is as it was", 20, x.entry(1, 1, 3));
        x.way(1);
        Due.is("by WAY 1 it would not", 1, x.cuts(1, 0, 0, 1));
        Due.row(x, "cuts()", 1, 1);
    }

    /** Far more rows than a table may have: ten rows, each split in three, or in twenty. */
    private static void farTooMany() {
        PeriodTables x = new PeriodTables();
        for (int i = 0; i < 19; i++) {
            x.adds(1, 0, 1, 2 * i, 2 * i + 1);
        }
        x.adds(1, 0, 1, 40, 60);
        for (int key = 0; key < 10; key++) {
            x.adds(0, key, key, 40, 60);
            x.refers(key, 0, 40, 60);
        }
        Due.is("not HELD ahead of that", -4, x.shifts(1, 0, 38));
        Due.is("not HELD ahead of that", -3, x.cuts(1, 0, 50, 51));
        x.way(2);
        Due.is("200 rows", -9, x.shifts(1, 0, 38));
        Due.is("30 rows", -9, x.cuts(1, 0, 50, 51));
        x.way(1);
        Due.is("100 rows", -9, x.shifts(1, 0, 38));
        Due.is("21 rows of TABLE 1", -9, x.cuts(1, 0, 50, 51));
        x.cuts(1, 0, 0, 5);
        Due.is("20 rows of TABLE 0", 1, x.cuts(1, 0, 50, 51));
        Due.row(x, "cuts()", 1, 10);
        Due.is("20 rows", 20, x.count(0));
        Due.is("HELD", 200 - 10, x.drags(0, 0, 100));
    }

    private static void wrongArguments() {
        PeriodTables x = full();
        for (int bad : Wrong.TABLES) {
            Due.is("adds() TABLE", -1, x.adds(bad, 0, 0, 50, 60));
            Due.is("sets() TABLE", -1, x.sets(bad, 0, 0, 50, 60));
            Due.is("cuts() TABLE", -1, x.cuts(bad, 0, 50, 60));
            Due.is("shifts() TABLE", -1, x.shifts(bad, 0, 1));
            Due.is("joins() TABLE", -1, x.joins(bad));
        }
        for (int bad : Wrong.KEYS) {
            Due.is("adds() KEY", -1, x.adds(0, bad, 0, 50, 60));
            Due.is("sets() KEY", -1, x.sets(0, bad, 0, 50, 60));
            Due.is("refers() KEY", -1, x.refers(bad, 0, 50, 60));
            Due.is("cuts() KEY", -1, x.cuts(0, bad, 50, 60));
            Due.is("shifts() KEY", -1, x.shifts(0, bad, 1));
        }
        for (int[] bad : Wrong.PERIODS) {
            Due.is("adds() PERIOD", -1, x.adds(0, 0, 0, bad[0], bad[1]));
            Due.is("sets() PERIOD", -1, x.sets(0, 0, 0, bad[0], bad[1]));
            Due.is("refers() PERIOD", -1, x.refers(0, 0, bad[0], bad[1]));
            Due.is("cuts() PERIOD", -1, x.cuts(0, 0, bad[0], bad[1]));
        }
        Due.is("adds() VALUE", -1, x.adds(0, 0, 100, 0, 10));
        Due.is("adds() VALUE", -1, x.adds(0, 0, -1, 0, 10));
        Due.is("sets() VALUE", -1, x.sets(0, 0, 100, 50, 60));
        Due.is("sets() VALUE", -1, x.sets(0, 0, -1, 50, 60));
        Due.is("refers() REF", -1, x.refers(0, 11, 50, 60));
        Due.is("refers() REF", -1, x.refers(0, -1, 50, 60));
        Due.is("shifts() by 0", -1, x.shifts(0, 0, 0));
        Due.is("shifts() by 100", -1, x.shifts(0, 0, 100));
        Due.is("shifts() by -100", -1, x.shifts(0, 0, -100));
        Due.is("shifts() by MIN", -1, x.shifts(0, 0, Integer.MIN_VALUE));
        Due.is("nothing changed", 20, x.count(0) + x.count(1) - 20);
        Due.is("what can be undone", 10, x.count(7));
    }
}
