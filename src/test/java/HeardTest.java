/** Promises 35 to 38: heard, denies, fits, asks. */
public final class HeardTest {
    public static void main(String[] args) {
        heard();
        denies();
        fits();
        asks();
        asksOfAll();
        Due.finish("HeardTest");
    }

    private static void heard() {
        PeriodTables x = new PeriodTables();
        int[][] others = {{-1, 0}, {4, 0}, {0, -1}, {0, 10}, {1, 10}, {1, -1}, {2, 10}, {2, -1}, {3, 2}, {3, -1},
            {Integer.MIN_VALUE, 0}, {Integer.MAX_VALUE, 0}, {0, Integer.MIN_VALUE}, {3, Integer.MAX_VALUE}};
        for (int[] bad : others) {
            Due.is("heard(" + bad[0] + ", " + bad[1] + ")", -1, x.heard(bad[0], bad[1]));
        }
        for (int i = 1; i <= 12; i++) {
            Due.is("the " + i + "th", i, x.heard(i % 4, i % 4 == 3 ? i / 4 % 2 : 9));
        }
        Due.is("the 13th", -1, x.heard(0, 0));
        Due.is("12", 12, x.count(6));
        Due.row(x, "heard() tells none");
    }

    private static void denies() {
        PeriodTables x = new PeriodTables();
        x.adds(0, 3, 0, 0, 1);
        Due.is("nothing was heard", 0, x.denies());
        x.heard(0, 5);
        x.heard(0, 5);
        Due.is("none fits", 0, x.fits());
        Due.is("two", 2, x.denies());
        Due.is("none any more", 0, x.count(6));
        Due.is("it fits", 1, x.fits());
        Due.is("none", 0, x.denies());
        Due.is("the first again", 1, x.heard(0, 3));
    }

    private static PeriodTables some() {
        PeriodTables x = new PeriodTables();
        x.adds(1, 5, 0, 0, 100);
        x.adds(0, 1, 9, 0, 10);
        x.adds(0, 1, 10, 10, 11);
        x.adds(0, 2, 95, 5, 95);
        x.adds(0, 2, 50, 95, 100);
        x.adds(0, 7, 49, 11, 20);
        x.refers(2, 5, 5, 95);
        x.refers(7, 5, 11, 20);
        return x;
    }

    private static void fit(int what, int v, int bits, int many) {
        PeriodTables x = some();
        x.heard(what, v);
        Due.is("fits() to " + what + ", " + v, bits, x.fits());
        Due.row(x, "fits() to " + what + ", " + v, many);
    }

    private static void fits() {
        fit(0, 1, 3, 2);
        fit(0, 0, 0, 0);
        fit(0, 7, 16, 1);
        fit(1, 0, 31, 5);
        fit(1, 1, 30, 4);
        fit(1, 5, 12, 2);
        fit(1, 9, 4, 1);
        fit(2, 0, 1, 1);
        fit(2, 1, 6, 2);
        fit(2, 2, 4, 1);
        fit(2, 9, 4, 1);
        fit(3, 0, 11, 3);
        fit(3, 1, 20, 2);
        PeriodTables x = some();
        Due.is("all, nothing was heard", 31, x.fits());
        Due.row(x, "fits()", 5);
        x.heard(0, 1);
        x.heard(2, 1);
        Due.is("both", 2, x.fits());
        x.heard(3, 1);
        Due.is("all three", 0, x.fits());
        Due.row(x, "fits()", 0);
    }

    private static void asks() {
        PeriodTables x = some();
        Due.is("2 or 3 are left, KEY 1", 1, x.asks());
        Due.row(x, "asks()", 3);
        x.heard(0, 1);
        Due.is("of two of a KEY, VALUE 10 or more", 11, x.asks());
        Due.row(x, "asks()", 1);
        x.heard(1, 1);
        Due.is("of one", 0, x.asks());
        Due.row(x, "asks()", 1);
        x.heard(0, 9);
        Due.is("none fits", -2, x.asks());
        Due.row(x, "asks() of none", 1);
        Due.is("asking is not hearing", 3, x.count(6));
        Due.is("of no rows", -2, new PeriodTables().asks());
    }

    private static void asksOfAll() {
        PeriodTables x = new PeriodTables();
        x.adds(0, 1, 5, 1, 30);
        x.adds(0, 1, 5, 30, 40);
        Due.is("only DAYS tell: 10, 20 or 30", 21, x.asks());
        Due.row(x, "asks()", 1);
        x = new PeriodTables();
        x.adds(1, 5, 0, 0, 100);
        x.adds(0, 1, 5, 1, 2);
        x.adds(0, 1, 5, 2, 3);
        Due.is("nothing tells", 0, x.asks());
        Due.row(x, "asks()", 2);
        x.refers(1, 5, 2, 3);
        Due.is("only REF tells", 30, x.asks());
        Due.row(x, "asks()", 1);
        x = new PeriodTables();
        x.adds(0, 1, 89, 0, 1);
        x.adds(0, 1, 90, 1, 2);
        Due.is("VALUE 90 or more, ahead of a DAY", 19, x.asks());
        Due.row(x, "asks()", 1);
    }
}
