/** Promises 15 to 23: each sentence that names an edge, by itself. */
public final class EdgesDaysTest {
    public static void main(String[] args) {
        atFirstAndLastDays();
        atNotThere();
        atRefused();
        sliceOfAllAndNone();
        sliceRefused();
        gapsWithinThePeriod();
        gapsWithout();
        gapsRefused();
        coversADayShort();
        coversRefused();
        liesEachWay();
        liesOfNone();
        changesOfValueAlone();
        changesAtTheEdges();
        changesTwelveAtMost();
        changesRefused();
        rowsEdges();
        rowsRefused();
        longestOfAsMany();
        longestOfNone();
        longestRefused();
        freeEdges();
        freeIsNone();
        freeRefused();
        Due.finish("EdgesDaysTest");
    }

    /** A row at the first day, one at the last, in both tables. */
    private static PeriodTables edges() {
        PeriodTables x = new PeriodTables();
        for (int table = 0; table < 2; table++) {
            x.adds(table, 0, 0, 0, 1);
            x.adds(table, 0, 99, 99, 100);
            x.adds(table, 9, 50, 40, 60);
        }
        x.refers(9, 9, 40, 50);
        x.rows(1);
        return x;
    }

    /** "VALUE of a KEY at a DAY: it; the ROW: REF, FROM, TO of its ROW" */
    private static void atFirstAndLastDays() {
        PeriodTables x = edges();
        Due.is("day 0", 0, x.at(0, 0, 0));
        Due.row(x, "at()", 10, 0, 1);
        Due.is("day 99", 99, x.at(0, 0, 99));
        Due.row(x, "at()", 10, 99, 100);
        Due.is("its first day", 50, x.at(0, 9, 40));
        Due.row(x, "at()", 9, 40, 50);
        Due.is("its last day", 50, x.at(0, 9, 49));
        Due.row(x, "at()", 9, 40, 50);
        Due.is("the next one's first day", 50, x.at(0, 9, 50));
        Due.row(x, "at()", 10, 50, 60);
        Due.is("of TABLE 1", 50, x.at(1, 9, 59));
        Due.row(x, "at()", 10, 40, 60);
    }

    /** "-2: it is not there" */
    private static void atNotThere() {
        PeriodTables x = edges();
        Seen.refused(x, "behind its last day", -2, y -> y.at(0, 9, 60));
        Seen.refused(x, "ahead of its first day", -2, y -> y.at(0, 9, 39));
        Seen.refused(x, "behind day 0", -2, y -> y.at(0, 0, 1));
        Seen.refused(x, "ahead of day 99", -2, y -> y.at(1, 0, 98));
        Seen.refused(x, "never there", -2, y -> y.at(0, 5, 50));
        Seen.refused(new PeriodTables(), "no ROWS", -2, y -> y.at(0, 0, 0));
    }

    /** "NONE: others, no DAY." */
    private static void atRefused() {
        PeriodTables x = edges();
        for (int bad : Wrong.TABLES) {
            Seen.refused(x, "at() TABLE", -1, y -> y.at(bad, 0, 0));
        }
        for (int bad : Wrong.KEYS) {
            Seen.refused(x, "at() KEY", -1, y -> y.at(0, bad, 0));
        }
        for (int bad : Wrong.DAYS) {
            Seen.refused(x, "at() DAY", -1, y -> y.at(0, 0, bad));
            Seen.refused(x, "at() DAY ahead of not there", -1, y -> y.at(0, 5, bad));
        }
    }

    /** "NONE: none such, no DAY." */
    private static void sliceRefused() {
        PeriodTables x = edges();
        for (int bad : Wrong.TABLES) {
            Seen.refused(x, "slice() TABLE", -1, y -> y.slice(bad, 0));
        }
        for (int bad : Wrong.DAYS) {
            Seen.refused(x, "slice() DAY", -1, y -> y.slice(0, bad));
            Seen.refused(x, "slice() DAY", -1, y -> y.slice(1, bad));
        }
    }

    /** "KEYS that are there at a DAY (bits): them; the ROW: their VALUES, by KEY" */
    private static void sliceOfAllAndNone() {
        PeriodTables x = edges();
        Due.is("day 0", 1, x.slice(0, 0));
        Due.row(x, "slice()", 0);
        Due.is("day 99", 1, x.slice(0, 99));
        Due.row(x, "slice()", 99);
        Due.is("day 1", 0, x.slice(0, 1));
        Due.row(x, "slice() of none");
        Due.is("day 59", 1 << 9, x.slice(1, 59));
        Due.row(x, "slice()", 50);
        Due.is("day 60", 0, x.slice(1, 60));
        for (int key = 9; key >= 1; key--) {
            x.adds(1, key, 90 + key, 0, 1);
        }
        Due.is("all ten", 1023, x.slice(1, 0));
        Due.row(x, "slice() of all", 0, 91, 92, 93, 94, 95, 96, 97, 98, 99);
    }

    /** "FROM and TO of the first stretch of them": of DAYS of the PERIOD alone. */
    private static void gapsWithinThePeriod() {
        PeriodTables x = edges();
        Due.is("between", 98, x.gaps(0, 0, 0, 100));
        Due.row(x, "gaps()", 1, 99);
        Due.is("cut at both ends", 10, x.gaps(0, 0, 10, 20));
        Due.row(x, "gaps()", 10, 20);
        Due.is("two stretches", 80, x.gaps(0, 9, 0, 100));
        Due.row(x, "gaps()", 0, 40);
        Due.is("the second, of a PERIOD from within", 5, x.gaps(0, 9, 45, 65));
        Due.row(x, "gaps()", 60, 65);
        Due.is("the first, to within", 1, x.gaps(0, 9, 39, 41));
        Due.row(x, "gaps()", 39, 40);
        Due.is("one day", 1, x.gaps(0, 9, 99, 100));
        Due.row(x, "gaps()", 99, 100);
        Due.is("never there", 100, x.gaps(1, 5, 0, 100));
        Due.row(x, "gaps()", 0, 100);
    }

    /** "(nothing without)" */
    private static void gapsWithout() {
        PeriodTables x = edges();
        Due.is("by two rows", 0, x.gaps(0, 9, 40, 60));
        Due.row(x, "gaps()");
        Due.is("the first day", 0, x.gaps(0, 0, 0, 1));
        Due.row(x, "gaps()");
        Due.is("the last day", 0, x.gaps(1, 0, 99, 100));
        Due.row(x, "gaps()");
    }

    /** "NONE: others." */
    private static void gapsRefused() {
        PeriodTables x = edges();
        for (int[] bad : Wrong.PERIODS) {
            Seen.refused(x, "gaps() PERIOD", -1, y -> y.gaps(0, 0, bad[0], bad[1]));
        }
        for (int bad : Wrong.KEYS) {
            Seen.refused(x, "gaps() KEY", -1, y -> y.gaps(0, bad, 0, 1));
        }
        for (int bad : Wrong.TABLES) {
            Seen.refused(x, "gaps() TABLE", -1, y -> y.gaps(bad, 0, 0, 1));
        }
    }

    /** "Whether a KEY of TABLE 1 is COVERED over a PERIOD: 1, 0; the ROW: how many ROWS of it have DAYS in that" */
    private static void coversADayShort() {
        PeriodTables x = new PeriodTables();
        x.adds(1, 0, 1, 0, 1);
        x.adds(1, 0, 2, 1, 50);
        x.adds(1, 0, 3, 50, 99);
        Due.is("by three", 1, x.covers(0, 0, 99));
        Due.row(x, "covers()", 3);
        Due.is("a day short behind", 0, x.covers(0, 0, 100));
        Due.row(x, "covers()", 3);
        Due.is("none at all", 0, x.covers(0, 99, 100));
        Due.row(x, "covers()", 0);
        Due.is("by one of them", 1, x.covers(0, 49, 50));
        Due.row(x, "covers()", 1);
        Due.is("by two of them", 1, x.covers(0, 49, 51));
        Due.row(x, "covers()", 2);
        x.cuts(1, 0, 0, 1);
        Due.is("a day short ahead", 0, x.covers(0, 0, 99));
        Due.row(x, "covers()", 2);
        x.cuts(1, 0, 50, 51);
        Due.is("a day short within", 0, x.covers(0, 1, 99));
        Due.row(x, "covers()", 2);
        x.adds(0, 0, 1, 0, 100);
        Due.is("TABLE 0 is not asked", 0, x.covers(0, 50, 51));
        Due.row(x, "covers()", 0);
    }

    /** "NONE: others." */
    private static void coversRefused() {
        PeriodTables x = edges();
        for (int[] bad : Wrong.PERIODS) {
            Seen.refused(x, "covers() PERIOD", -1, y -> y.covers(0, bad[0], bad[1]));
        }
        for (int bad : Wrong.KEYS) {
            Seen.refused(x, "covers() KEY", -1, y -> y.covers(bad, 0, 1));
        }
    }

    /** Every way in which two periods of days 0 .. 5 can lie: one sentence of the thirteen holds, and it is told. */
    private static void liesEachWay() {
        for (int f = 0; f < 5; f++) {
            for (int t = f + 1; t <= 5; t++) {
                for (int otherF = 0; otherF < 5; otherF++) {
                    for (int otherT = otherF + 1; otherT <= 5; otherT++) {
                        lie(f, t, otherF, otherT);
                    }
                }
            }
        }
        lie(0, 1, 99, 100);
        lie(99, 100, 0, 1);
        lie(0, 100, 0, 100);
        lie(0, 100, 99, 100);
        lie(0, 99, 99, 100);
    }

    private static void lie(int f, int t, int otherF, int otherT) {
        int big = otherF;
        int end = otherT;
        boolean[] holds = {t < big, t == big, f < big && big < t && t < end, f == big && t < end, big < f && t < end,
            big < f && t == end, f == big && t == end, f < big && t == end, f < big && end < t, f == big && end < t,
            big < f && f < end && end < t, end == f, end < f};
        int want = -1;
        int holding = 0;
        for (int k = 0; k < 13; k++) {
            want = holds[k] ? k : want;
            holding += holds[k] ? 1 : 0;
        }
        Due.is("one sentence holds", 1, holding);
        int both = 0;
        for (int day = 0; day < 100; day++) {
            both += day >= f && day < t && day >= big && day < end ? 1 : 0;
        }
        PeriodTables x = new PeriodTables();
        x.adds(0, 1, 1, f, t);
        x.adds(1, 2, 2, big, end);
        x.adds(0, 3, 2, big, end);
        String call = "lies() of " + f + " .. " + t + " to " + big + " .. " + end;
        Due.is(call, want, x.lies(0, 0, 1, 0));
        Due.row(x, call, both);
        Due.is(call + " of the same TABLE", want, x.lies(0, 0, 0, 1));
        Due.row(x, call, both);
    }

    /** "NONE: none such." */
    private static void liesOfNone() {
        PeriodTables x = edges();
        int[] numbers = {-1, 4, 20, 23, 24, Integer.MIN_VALUE, Integer.MAX_VALUE};
        for (int bad : numbers) {
            Seen.refused(x, "lies() of ROW " + bad, -1, y -> y.lies(0, bad, 0, 0));
            Seen.refused(x, "lies() to ROW " + bad, -1, y -> y.lies(0, 0, 0, bad));
        }
        Seen.refused(x, "lies() of ROW 3 of TABLE 1", -1, y -> y.lies(1, 3, 0, 3));
        Seen.refused(x, "lies() to ROW 3 of TABLE 1", -1, y -> y.lies(0, 3, 1, 3));
        Due.is("the last ones", 11, x.lies(0, 3, 0, 2));
        for (int bad : Wrong.TABLES) {
            Seen.refused(x, "lies() of no TABLE", -1, y -> y.lies(bad, 0, 0, 0));
            Seen.refused(x, "lies() to no TABLE", -1, y -> y.lies(0, 0, bad, 0));
        }
        Seen.refused(new PeriodTables(), "lies() of no ROWS", -1, y -> y.lies(0, 0, 0, 0));
    }

    /** "a KEY's VALUE is another one at a DAY than at the DAY ahead of it (it being there at both)" */
    private static void changesOfValueAlone() {
        PeriodTables x = new PeriodTables();
        x.adds(1, 7, 1, 0, 100);
        x.adds(0, 3, 30, 10, 20);
        x.adds(0, 3, 30, 20, 30);
        x.adds(0, 3, 30, 30, 40);
        x.refers(3, 7, 20, 30);
        Due.is("rows and REF are no VALUE", 0, x.changes(0, 3));
        Due.row(x, "changes() of none");
        x.adds(0, 3, 31, 41, 50);
        Due.is("it is not there between", 0, x.changes(0, 3));
        x.adds(0, 3, 31, 40, 41);
        Due.is("it is there at both", 1, x.changes(0, 3));
        Due.row(x, "changes()", 40);
        x.sets(0, 3, 0, 49, 50);
        Due.is("to 0 is one", 2, x.changes(0, 3));
        Due.row(x, "changes()", 40, 49);
        Due.is("another KEY ends where one begins", 0, x.changes(0, 4));
        x.adds(0, 4, 1, 50, 60);
        Due.is("another KEY ends where one begins", 0, x.changes(0, 4));
        Due.row(x, "changes() of none");
    }

    /** The first DAY that has one ahead of it, and the last. */
    private static void changesAtTheEdges() {
        PeriodTables x = new PeriodTables();
        x.adds(0, 0, 5, 0, 1);
        x.adds(0, 0, 6, 1, 99);
        x.adds(0, 0, 7, 99, 100);
        Due.is("days 1 and 99", 2, x.changes(0, 0));
        Due.row(x, "changes()", 1, 99);
        Due.is("no ROWS", 0, x.changes(1, 0));
        Due.row(x, "changes() of none");
    }

    /** "NONE: none such." */
    private static void changesRefused() {
        PeriodTables x = edges();
        for (int bad : Wrong.TABLES) {
            Seen.refused(x, "changes() TABLE", -1, y -> y.changes(bad, 0));
        }
        for (int bad : Wrong.KEYS) {
            Seen.refused(x, "changes() KEY", -1, y -> y.changes(0, bad));
        }
    }

    /** "the first such DAYS (12 at most)" */
    private static void changesTwelveAtMost() {
        for (int many = 11; many < 20; many++) {
            PeriodTables x = new PeriodTables();
            for (int i = 0; i <= many; i++) {
                x.adds(1, 4, i, 3 * i, 3 * i + 3);
            }
            Due.is("changes", many, x.changes(1, 4));
            long[] want = new long[Math.min(12, many)];
            for (int i = 0; i < want.length; i++) {
                want[i] = 3 * i + 3;
            }
            Due.row(x, many + " changes", want);
        }
    }

    /** "how many; the ROW: how many there would be behind joins(), DAYS of all together" */
    private static void rowsEdges() {
        PeriodTables x = new PeriodTables();
        for (int i = 0; i < 20; i++) {
            x.adds(1, 4, 9, 5 * i, 5 * i + 5);
            x.adds(0, i / 2, 9, i % 2 * 50, i % 2 * 50 + 49);
        }
        Due.is("20 that would be one", 20, x.rows(1));
        Due.row(x, "rows()", 1, 100);
        Due.is("20 that stay 20", 20, x.rows(0));
        Due.row(x, "rows()", 20, 980);
        Due.is("nothing is joined", 20, x.count(1));
        x = new PeriodTables();
        Due.is("none", 0, x.rows(1));
        Due.row(x, "rows()", 0, 0);
    }

    /** "NONE: none such." */
    private static void rowsRefused() {
        PeriodTables x = edges();
        for (int bad : Wrong.TABLES) {
            Seen.refused(x, "rows() TABLE", -1, y -> y.rows(bad));
        }
    }

    /** "-2: there is none" */
    private static void longestOfNone() {
        PeriodTables x = new PeriodTables();
        Seen.refused(x, "there is none", -2, y -> y.longest(0));
        x.adds(0, 0, 0, 0, 1);
        x.rows(0);
        Seen.refused(x, "there is none in TABLE 1", -2, y -> y.longest(1));
    }

    /** "NONE: none such." */
    private static void longestRefused() {
        PeriodTables x = edges();
        for (int bad : Wrong.TABLES) {
            Seen.refused(x, "longest() TABLE", -1, y -> y.longest(bad));
            Seen.refused(new PeriodTables(), "longest() TABLE ahead of none", -1, y -> y.longest(bad));
        }
    }

    /** "(of as many the least number)" */
    private static void longestOfAsMany() {
        PeriodTables x = new PeriodTables();
        x.adds(0, 3, 1, 0, 10);
        x.adds(0, 2, 1, 0, 9);
        x.adds(0, 4, 1, 90, 100);
        x.adds(0, 4, 1, 80, 90);
        Due.is("of three the least", 1, x.longest(0));
        Due.row(x, "longest()", 10);
        x.adds(0, 5, 1, 0, 11);
        Due.is("the last", 4, x.longest(0));
        Due.row(x, "longest()", 11);
        x.adds(0, 0, 1, 0, 100);
        Due.is("all days", 0, x.longest(0));
        Due.row(x, "longest()", 100);
        x.adds(1, 0, 1, 99, 100);
        Due.is("one day", 0, x.longest(1));
        Due.row(x, "longest()", 1);
    }

    /** "The first PERIOD of n DAYS (1 .. 100) from a DAY on or behind at which a KEY is not there at all" */
    private static void freeEdges() {
        PeriodTables x = new PeriodTables();
        Due.is("all days", 0, x.free(0, 0, 0, 100));
        Due.is("the last day", 99, x.free(0, 0, 99, 1));
        Due.is("all from day 1 on", 1, x.free(0, 0, 1, 99));
        x = islands();
        Due.is("behind the first", 1, x.free(0, 0, 0, 9));
        Due.is("ten of a later gap", 20, x.free(0, 0, 0, 10));
        Due.is("within a gap", 5, x.free(0, 0, 5, 5));
        Due.is("not within it", 20, x.free(0, 0, 5, 6));
        Due.is("at a gap's last day", 9, x.free(0, 0, 9, 1));
        Due.is("in a row", 20, x.free(0, 0, 10, 1));
        Due.is("the last day of all", 99, x.free(0, 0, 30, 1));
        Due.is("another KEY is free", 0, x.free(0, 1, 0, 100));
        Due.is("the other TABLE is free", 0, x.free(1, 0, 0, 100));
    }

    private static PeriodTables islands() {
        PeriodTables x = new PeriodTables();
        x.adds(0, 0, 1, 0, 1);
        x.adds(0, 0, 1, 10, 20);
        x.adds(0, 0, 1, 30, 99);
        return x;
    }

    /** "-2: there is none" */
    private static void freeIsNone() {
        PeriodTables x = new PeriodTables();
        Seen.refused(x, "100 from day 1 on", -2, y -> y.free(0, 0, 1, 100));
        Seen.refused(x, "two from the last day on", -2, y -> y.free(0, 0, 99, 2));
        x = islands();
        Seen.refused(x, "eleven nowhere", -2, y -> y.free(0, 0, 0, 11));
        Seen.refused(x, "two nowhere from 29 on", -2, y -> y.free(0, 0, 29, 2));
        x.adds(0, 0, 1, 99, 100);
        Seen.refused(x, "no day from there on", -2, y -> y.free(0, 0, 30, 1));
    }

    /** "NONE: others, no DAY." */
    private static void freeRefused() {
        PeriodTables x = edges();
        int[] lengths = {0, -1, 101, Integer.MIN_VALUE, Integer.MAX_VALUE};
        for (int bad : lengths) {
            Seen.refused(x, "free() of " + bad + " days", -1, y -> y.free(0, 0, 0, bad));
            Seen.refused(x, "free() of " + bad + " days from 99 on", -1, y -> y.free(0, 0, 99, bad));
        }
        for (int bad : Wrong.DAYS) {
            Seen.refused(x, "free() DAY", -1, y -> y.free(0, 0, bad, 1));
            Seen.refused(x, "free() DAY", -1, y -> y.free(0, 0, bad, 100));
        }
        for (int bad : Wrong.KEYS) {
            Seen.refused(x, "free() KEY", -1, y -> y.free(0, bad, 0, 1));
        }
        for (int bad : Wrong.TABLES) {
            Seen.refused(x, "free() TABLE", -1, y -> y.free(bad, 0, 0, 1));
        }
    }
}
