/** Promises 24 to 32: meets, lacks, either, sums, mean, fullest, spans, users, drags. */
public final class BothTest {
    public static void main(String[] args) {
        meets();
        meetsAlike();
        lacks();
        keyNought();
        either();
        sums();
        mean();
        fullest();
        spans();
        spansBeyondTwelve();
        users();
        drags();
        wrong();
        Due.finish("BothTest");
    }

    private static PeriodTables some() {
        PeriodTables x = new PeriodTables();
        x.adds(1, 2, 20, 10, 30);
        x.adds(1, 2, 21, 30, 60);
        x.adds(1, 4, 40, 0, 50);
        x.adds(0, 2, 1, 20, 70);
        x.adds(0, 3, 3, 25, 35);
        x.adds(0, 4, 9, 60, 61);
        x.refers(2, 2, 20, 40);
        x.refers(3, 4, 25, 30);
        return x;
    }

    private static void meets() {
        PeriodTables x = some();
        Due.is("all through", 3, x.meets(0, 100));
        Due.row(x, "meets()", 25, 2, 20, 30);
        Due.is("from 30 on", 1, x.meets(30, 100));
        Due.row(x, "meets()", 10, 2, 30, 40);
        Due.is("in the middle", 3, x.meets(28, 32));
        Due.row(x, "meets()", 6, 2, 28, 30);
        Due.is("a day of two keys", 2, x.meets(29, 30));
        Due.row(x, "meets()", 2, 2, 29, 30);
        Due.is("none", 0, x.meets(40, 100));
        Due.row(x, "meets()", 0);
    }

    private static void meetsAlike() {
        PeriodTables x = new PeriodTables();
        x.adds(1, 5, 7, 0, 10);
        x.adds(1, 5, 7, 10, 30);
        x.adds(0, 1, 4, 0, 15);
        x.adds(0, 1, 4, 15, 20);
        x.adds(0, 1, 4, 20, 30);
        x.refers(1, 5, 0, 30);
        Due.is("alike rows are one stretch", 1, x.meets(0, 100));
        Due.row(x, "meets()", 30, 1, 0, 30);
        x.sets(1, 5, 8, 12, 13);
        Due.is("VALUE of the other TABLE splits it", 3, x.meets(0, 100));
        Due.row(x, "meets()", 30, 1, 0, 12);
        x.sets(0, 1, 5, 20, 22);
        Due.is("and VALUE of its own", 5, x.meets(0, 100));
        x.adds(1, 6, 7, 0, 30);
        x.refers(1, 6, 25, 30);
        Due.is("and REF", 6, x.meets(0, 100));
        x.refers(1, 10, 2, 3);
        Due.is("and no REF", 7, x.meets(0, 100));
        Due.row(x, "meets()", 29, 1, 0, 2);
    }

    private static void lacks() {
        PeriodTables x = some();
        Due.is("of TABLE 0", 3, x.lacks(0));
        Due.row(x, "lacks()", 10 + 10 + 1, 2, 60, 70);
        Due.is("of TABLE 1", 2, x.lacks(1));
        Due.row(x, "lacks()", 10 + 50, 2, 10, 20);
        x.cuts(1, 4, 10, 20);
        x.adds(0, 4, 0, 30, 31);
        Due.is("of TABLE 1", 4, x.lacks(1));
        Due.row(x, "lacks()", 10 + 39, 2, 10, 20);
        x.sets(0, 3, 9, 27, 30);
        Due.is("whatever VALUES and REF", 3, x.lacks(0));
        Due.row(x, "lacks()", 10 + 10 + 1, 2, 60, 70);
        x.adds(1, 3, 0, 0, 100);
        x.adds(1, 2, 0, 60, 100);
        x.adds(1, 4, 0, 60, 100);
        Due.is("none", 0, x.lacks(0));
        Due.row(x, "lacks()", 0);
    }

    private static void keyNought() {
        PeriodTables x = new PeriodTables();
        x.adds(0, 0, 5, 0, 1);
        x.adds(0, 1, 5, 1, 2);
        x.adds(1, 9, 5, 99, 100);
        Due.is("lacks() of KEYS 0 and 1", 2, x.lacks(0));
        Due.row(x, "lacks()", 2, 0, 0, 1);
        Due.is("lacks() of KEY 9", 1, x.lacks(1));
        Due.row(x, "lacks()", 1, 9, 99, 100);
        Due.is("either() of KEYS 0, 1 and 9", 3, x.either());
        Due.row(x, "either()", 3, 0);
    }

    private static void either() {
        PeriodTables x = some();
        Due.is("stretches", 4, x.either());
        Due.row(x, "either()", 60 + 10 + 50 + 1, 40);
        x.adds(0, 4, 1, 50, 60);
        Due.is("they touch", 3, x.either());
        Due.row(x, "either()", 60 + 10 + 61, 40);
    }

    private static void sums() {
        PeriodTables x = some();
        Due.is("TABLE 0", 50 + 30 + 9, x.sums(0, 0, 100));
        Due.row(x, "sums()", 10, 60);
        Due.is("a part of it", 10 + 15, x.sums(0, 30, 40));
        Due.row(x, "sums()", 4, 30);
        Due.is("nothing there", 0, x.sums(0, 80, 90));
        Due.row(x, "sums()", 0, 80);
        Due.is("TABLE 1", 400 + 630 + 2000, x.sums(1, 0, 100));
        Due.row(x, "sums()", 61, 30);
        Due.is("from a day on at which it is the most", 61 * 5, x.sums(1, 45, 50));
        Due.row(x, "sums()", 61, 45);
    }

    private static void mean() {
        PeriodTables x = some();
        Due.is("of two rows", 0, x.mean(1, 2));
        Due.row(x, "mean()", 103, 5, 50);
        Due.is("of one", 0, x.mean(0, 4));
        Due.row(x, "mean()", 9, 1, 1);
        x.sets(0, 4, 0, 0, 100);
        Due.is("of 0", 0, x.mean(0, 4));
        Due.row(x, "mean()", 0, 1, 1);
        x.sets(0, 3, 0, 0, 100);
        Due.is("of 0, ten days", 0, x.mean(0, 3));
        Due.row(x, "mean()", 0, 1, 10);
        Due.is("never there", -2, x.mean(0, 5));
        Due.row(x, "mean() of nothing", 0, 1, 10);
        x.adds(0, 6, 99, 0, 99);
        x.adds(0, 6, 98, 99, 100);
        Due.is("99 days 99, one day 98", 0, x.mean(0, 6));
        Due.row(x, "mean()", 9899, 100, 100);
    }

    private static void fullest() {
        PeriodTables x = some();
        Due.is("TABLE 0", 25, x.fullest(0));
        Due.row(x, "fullest()", 2, 11);
        Due.is("TABLE 1", 10, x.fullest(1));
        Due.row(x, "fullest()", 2, 40);
        x = new PeriodTables();
        x.adds(0, 9, 0, 99, 100);
        Due.is("the last day", 99, x.fullest(0));
        Due.row(x, "fullest()", 1, 1);
        Due.is("an empty TABLE", 0, x.fullest(1));
        Due.row(x, "fullest()", 0, 100);
    }

    private static void spans() {
        PeriodTables x = new PeriodTables();
        x.adds(0, 0, 0, 0, 30);
        x.adds(0, 1, 0, 20, 50);
        x.adds(0, 2, 0, 0, 40);
        x.adds(0, 3, 0, 40, 70);
        x.adds(0, 4, 0, 45, 80);
        x.adds(0, 5, 0, 30, 60);
        Due.is("two, not the greedy ones", 2, x.spans(0, 0, 50));
        Due.row(x, "spans()", 0, 1);
        Due.is("three", 3, x.spans(0, 0, 80));
        Due.row(x, "spans()", 0, 1, 4);
        Due.is("two", 2, x.spans(0, 0, 70));
        Due.row(x, "spans()", 2, 3);
        Due.is("one of several", 1, x.spans(0, 25, 30));
        Due.row(x, "spans()", 0);
        Due.is("one day", 1, x.spans(0, 79, 80));
        Due.row(x, "spans()", 4);
        Due.is("all have not", -2, x.spans(0, 79, 81));
        Due.is("all have not", -2, x.spans(1, 0, 1));
        Due.row(x, "spans() of none", 4);
        x.cuts(0, 3, 41, 69);
        Due.is("a gap in a KEY's rows", 3, x.spans(0, 0, 70));
        Due.row(x, "spans()", 0, 1, 5);
    }

    private static void spansBeyondTwelve() {
        PeriodTables x = new PeriodTables();
        for (int i = 0; i < 20; i++) {
            x.adds(1, i % 10, 0, 5 * i, 5 * i + 5);
        }
        Due.is("20", 20, x.spans(1, 0, 100));
        Due.row(x, "spans()", 0, 1, 2, 3, 4, 5, 6, 7, 8, 9, 10, 11);
        Due.is("14", 14, x.spans(1, 34, 96));
        Due.row(x, "spans()", 1, 3, 5, 7, 9, 11, 12, 13, 14, 15, 16, 17);
    }

    private static void users() {
        PeriodTables x = some();
        Due.is("one row", 1, x.users(2));
        Due.row(x, "users()", 20, 0);
        Due.is("one row", 1, x.users(4));
        Due.row(x, "users()", 5, 0);
        Due.is("none", 0, x.users(3));
        Due.row(x, "users()", 0, 0);
        x.adds(1, 2, 22, 60, 61);
        x.adds(1, 4, 22, 60, 61);
        x.refers(3, 2, 25, 35);
        Due.is("two rows that have days in common", 3, x.users(2));
        Due.row(x, "users()", 20, 1);
        Due.is("none any more", 0, x.users(4));
        Due.row(x, "users()", 0, 2);
        x = new PeriodTables();
        x.adds(1, 0, 0, 5, 10);
        x.adds(1, 0, 0, 0, 5);
        x.adds(0, 0, 0, 0, 100);
        x.refers(0, 0, 5, 6);
        Due.is("at its first day, behind a row's last", 1, x.users(0));
        Due.row(x, "users()", 1, 1);
        x.refers(0, 0, 0, 1);
        Due.is("at day 0", 2, x.users(0));
        Due.row(x, "users()", 2, 0);
    }

    private static void drags() {
        PeriodTables x = some();
        Due.is("of two rows' one", 10, x.drags(2, 30, 100));
        Due.row(x, "drags()", 1);
        Due.is("one day", 1, x.drags(2, 39, 60));
        Due.row(x, "drags()", 1);
        Due.is("nothing refers there", 0, x.drags(2, 40, 60));
        Due.row(x, "drags()", 0);
        Due.is("nothing is there", -2, x.drags(2, 60, 100));
        Due.is("nothing is there", -2, x.drags(9, 0, 100));
        Due.row(x, "drags() of nothing", 0);
        x.refers(3, 2, 25, 35);
        Due.is("three rows", 4 + 2 + 2, x.drags(2, 28, 32));
        Due.row(x, "drags()", 3);
        x.way(2);
        Due.is("whatever WAY is", 30, x.drags(2, 0, 100));
        Due.row(x, "drags()", 3);
        Due.is("nothing changes", 5, x.rows(0));
    }

    private static void wrong() {
        PeriodTables x = some();
        x.longest(1);
        for (int bad : Wrong.TABLES) {
            Due.is("lacks() TABLE", -1, x.lacks(bad));
            Due.is("sums() TABLE", -1, x.sums(bad, 0, 1));
            Due.is("mean() TABLE", -1, x.mean(bad, 0));
            Due.is("fullest() TABLE", -1, x.fullest(bad));
            Due.is("spans() TABLE", -1, x.spans(bad, 0, 1));
        }
        for (int bad : Wrong.KEYS) {
            Due.is("mean() KEY", -1, x.mean(0, bad));
            Due.is("users() KEY", -1, x.users(bad));
            Due.is("drags() KEY", -1, x.drags(bad, 0, 1));
        }
        for (int[] bad : Wrong.PERIODS) {
            Due.is("meets() PERIOD", -1, x.meets(bad[0], bad[1]));
            Due.is("sums() PERIOD", -1, x.sums(0, bad[0], bad[1]));
            Due.is("spans() PERIOD", -1, x.spans(0, bad[0], bad[1]));
            Due.is("drags() PERIOD", -1, x.drags(2, bad[0], bad[1]));
        }
        Due.row(x, "what was refused", 50);
    }
}
