/** Promise 39: years. */
public final class YearsTest {
    private static long drawn;

    public static void main(String[] args) {
        refused();
        oneYear();
        sameAsActs();
        undone();
        undoneToYears();
        Due.finish("YearsTest");
    }

    private static void refused() {
        PeriodTables x = new PeriodTables();
        x.adds(0, 0, 0, 0, 7);
        x.longest(0);
        int[] others = {0, 41, -1, Integer.MIN_VALUE, Integer.MAX_VALUE};
        for (int bad : others) {
            Due.is("years(1, " + bad + ")", -1, x.years(1, bad));
        }
        Due.row(x, "what was refused", 7);
        Due.is("nothing was done", 1, x.count(0) + x.count(1));
    }

    /** Reckoned by hand, an act of each kind. */
    private static void oneYear() {
        PeriodTables x = new PeriodTables();
        x.adds(0, 3, 50, 10, 30);
        x.adds(0, 3, 50, 80, 100);
        Due.is("33676, ..: cuts(1, 7, 82, 88)", 2, x.years(2, 1));
        Due.is("sets(0, 3, 48, 16, 26)", 4, x.years(27, 1));
        Due.row(x, "years()", 40, 10 * 50 + 16 * 48 + 26 * 50 + 80 * 50);
        Due.is("16838, 38526, 10113, 50283, 63819, 38395: sets(0, 3, 95, 83, 100)", 5, x.years(1, 1));
        Due.row(x, "years()", 40, 10 * 50 + 16 * 48 + 26 * 50 + 80 * 50 + 83 * 95);
        Due.is("adds(0, 8, 33, 74, 86)", 6, x.years(7, 1));
        Due.table(x, "behind years()", 0, 3, 50, 10, 16, 10, 3, 48, 16, 26, 10, 3, 50, 26, 30, 10,
                3, 50, 80, 83, 10, 3, 95, 83, 100, 10, 8, 33, 74, 86, 10);
        Due.is("adds(1, 5, 96, 80, 91)", 7, x.years(3, 1));
        Due.is("it is refused then", 7, x.years(3, 1));
        x.adds(1, 5, 0, 0, 50);
        x.adds(0, 5, 0, 1, 31);
        Due.is("TABLE 1, left aside: refers(5, 5, 3, 21)", 11, x.years(12, 1));
        Due.is("VALUE", 0, x.at(0, 5, 20));
        Due.row(x, "at()", 5, 3, 21);
        x.adds(1, 7, 1, 0, 100);
        Due.is("cuts(1, 7, 82, 88)", 13, x.years(2, 1));
        Due.table(x, "behind years()", 1, 5, 0, 0, 50, 10, 5, 96, 80, 91, 10, 7, 1, 0, 82, 10, 7, 1, 88, 100, 10);
        x.sets(0, 3, 50, 0, 100);
        Due.is("joins(0)", 10, x.years(4, 1));
    }

    private static int draw(int n) {
        drawn = (drawn * 1103515245L + 12345L) & 0xFFFFFFFFL;
        return (int) (drawn / 65536 % n);
    }

    private static void act(PeriodTables x) {
        int act = draw(6);
        int table = draw(2);
        int key = draw(10);
        int from = draw(100);
        int to = Math.min(100, from + draw(20) + 1);
        if (act < 2) {
            x.adds(table, key, draw(100), from, to);
        } else if (act == 2) {
            x.sets(table, key, draw(100), from, to);
        } else if (act == 3) {
            x.refers(key, draw(11), from, to);
        } else if (act == 4) {
            x.cuts(table, key, from, to);
        } else {
            x.joins(table);
        }
    }

    private static void sameAsActs() {
        int[] seeds = {0, 1, 2, -1, 4711, Integer.MAX_VALUE, Integer.MIN_VALUE, 987654321, -123456789};
        for (int seed : seeds) {
            PeriodTables x = new PeriodTables();
            PeriodTables y = new PeriodTables();
            x.way(seed & 1);
            y.way(seed & 1);
            for (int n = 1; n <= 40; n += 13) {
                drawn = seed + n & 0xFFFFFFFFL;
                for (int i = 0; i < n; i++) {
                    act(y);
                }
                long days = y.count(3) + y.count(4);
                Due.is("years(" + seed + ", " + n + ")", y.count(0) + y.count(1), x.years(seed + n, n));
                Due.row(x, "years(" + seed + ", " + n + ")", days, products(y));
                same(x, y);
            }
        }
    }

    private static long products(PeriodTables y) {
        long sum = 0;
        for (int table = 0; table < 2; table++) {
            for (int i = 0; i < y.count(table); i++) {
                sum += y.entry(table, i, 2) * y.entry(table, i, 1);
            }
        }
        return sum;
    }

    private static void same(PeriodTables x, PeriodTables y) {
        for (int table = 0; table < 2; table++) {
            Due.is("rows", y.count(table), x.count(table));
            for (int i = 0; i < y.count(table); i++) {
                for (int what = 0; what < 5; what++) {
                    Due.is("entry", y.entry(table, i, what), x.entry(table, i, what));
                }
            }
        }
    }

    /** years() is not among what can be undone; an undo() of what was ahead of it brings ROWS back all the same. */
    private static void undone() {
        PeriodTables x = new PeriodTables();
        Due.is("adds(0, 0, ..)", 1, x.years(0, 1));
        Due.is("nothing can be undone", 0, x.count(7));
        Due.is("undo() behind years()", -1, x.undo());
        Due.is("ROWS are as they were", 1, x.count(0) + x.count(1));

        x = new PeriodTables();
        x.adds(0, 3, 50, 10, 30);
        x.adds(0, 3, 50, 80, 100);
        x.years(27, 1);
        Due.is("sets(0, 3, 48, 16, 26)", 4, x.count(0));
        Due.is("what can be undone", 2, x.count(7));
        Due.is("undo() of adds()", 1, x.undo());
        Due.table(x, "behind undo()", 0, 3, 50, 10, 30, 10);
        x.years(1, 40);
        Due.is("what can be undone", 1, x.count(7));
        Due.is("undo() of adds()", 0, x.undo());
        Due.is("both are empty", 0, x.count(0) + x.count(1));
        Due.is("undo()", -1, x.undo());
    }

    /** A call behind years() is undone to what years() left. */
    private static void undoneToYears() {
        PeriodTables x = new PeriodTables();
        PeriodTables y = new PeriodTables();
        x.years(4711, 30);
        y.years(4711, 30);
        x.joins(0);
        x.way(2);
        Due.is("undo() of way()", 1, x.undo());
        Due.is("undo() of joins()", 0, x.undo());
        same(x, y);
        Due.is("undo()", -1, x.undo());
        same(x, y);
    }
}
