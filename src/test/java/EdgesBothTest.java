/** Promises 24 to 32: each sentence that names an edge, by itself. */
public final class EdgesBothTest {
    public static void main(String[] args) {
        meetsAsLongAsTheyCanBe();
        meetsTellsEachApart();
        meetsAtTheEdges();
        meetsWithout();
        meetsRefused();
        lacksEdges();
        lacksRefused();
        eitherEdges();
        sumsEdges();
        sumsRefused();
        meanEdges();
        meanNeverThere();
        meanRefused();
        fullestEdges();
        fullestRefused();
        spansFewest();
        spansLeastRow();
        spansTwelveAlone();
        spansAllHaveNot();
        spansRefused();
        usersEdges();
        usersRefused();
        dragsEdges();
        dragsOfNone();
        dragsAsCutsWould();
        dragsRefused();
        Due.finish("EdgesBothTest");
    }

    /** "stretches of DAYS, as long as they can be": over rows that are alike. */
    private static void meetsAsLongAsTheyCanBe() {
        PeriodTables x = new PeriodTables();
        for (int i = 0; i < 4; i++) {
            x.adds(1, 5, 7, 20 * i, 20 * i + 20);
            x.adds(0, 1, 3, 15 * i, 15 * i + 15);
        }
        x.refers(1, 5, 0, 60);
        Due.is("one of all", 1, x.meets(0, 100));
        Due.row(x, "meets()", 60, 1, 0, 60);
        Due.is("of a PERIOD", 1, x.meets(14, 41));
        Due.row(x, "meets()", 27, 1, 14, 41);
        x.cuts(0, 1, 30, 31);
        Due.is("a day between", 2, x.meets(0, 100));
        Due.row(x, "meets()", 59, 1, 0, 30);
        x.adds(0, 2, 3, 31, 60);
        x.refers(2, 5, 31, 60);
        Due.is("another KEY", 3, x.meets(0, 100));
        Due.row(x, "meets()", 88, 1, 0, 30);
    }

    private static void splitBy(int value, int ref, int other, int laterValue, int laterRef, int laterOther) {
        PeriodTables x = new PeriodTables();
        x.adds(0, 1, value, 0, 10);
        x.adds(0, 1, laterValue, 10, 20);
        x.adds(1, ref, other, 0, 10);
        x.adds(1, laterRef, laterOther, 10, 20);
        x.refers(1, ref, 0, 10);
        x.refers(1, laterRef, 10, 20);
        boolean same = value == laterValue && ref == laterRef && other == laterOther;
        String call = "meets() of " + value + ", " + ref + ", " + other + ", then " + laterValue + ", " + laterRef
                + ", " + laterOther;
        Due.is(call, same ? 1 : 2, x.meets(0, 100));
        Due.row(x, call, 20, 1, 0, same ? 20 : 10);
    }

    /** "with one KEY, VALUE, REF, and VALUE of that in TABLE 1" */
    private static void meetsTellsEachApart() {
        splitBy(5, 5, 5, 5, 5, 5);
        splitBy(5, 5, 5, 6, 5, 5);
        splitBy(5, 5, 5, 5, 6, 5);
        splitBy(5, 5, 5, 5, 5, 6);
        splitBy(1, 0, 99, 2, 0, 0);
        splitBy(1, 0, 2, 2, 0, 1);
        splitBy(0, 0, 99, 1, 0, 0);
        splitBy(0, 9, 0, 0, 0, 1);
        splitBy(0, 0, 1, 0, 9, 0);
        splitBy(3, 1, 4, 4, 3, 1);
        splitBy(0, 1, 0, 1, 0, 0);
        splitBy(99, 9, 99, 99, 9, 98);
        splitBy(0, 0, 0, 0, 0, 0);
        splitBy(99, 9, 99, 99, 9, 99);
        for (int ref = 0; ref < 10; ref++) {
            for (int later = 0; later < 10; later++) {
                splitBy(10, ref, 10, 10, later, 10);
                splitBy(10, ref, 10, 10, later, 11);
                splitBy(10, ref, 11, 11, later, 10);
            }
        }
    }

    /** The first day, the last day; "of the first one (by KEY, FROM ..)" */
    private static void meetsAtTheEdges() {
        PeriodTables x = new PeriodTables();
        x.adds(1, 0, 0, 0, 100);
        x.adds(0, 0, 0, 0, 1);
        x.adds(0, 9, 0, 99, 100);
        x.refers(0, 0, 0, 100);
        x.refers(9, 0, 0, 100);
        Due.is("the first and the last day", 2, x.meets(0, 100));
        Due.row(x, "meets()", 2, 0, 0, 1);
        Due.is("the first", 1, x.meets(0, 1));
        Due.row(x, "meets()", 1, 0, 0, 1);
        Due.is("the last", 1, x.meets(99, 100));
        Due.row(x, "meets()", 1, 9, 99, 100);
        Due.is("by KEY ahead of FROM", 2, byKey().meets(0, 100));
    }

    private static PeriodTables byKey() {
        PeriodTables x = new PeriodTables();
        x.adds(1, 4, 0, 0, 100);
        x.adds(0, 8, 0, 0, 10);
        x.adds(0, 7, 0, 50, 60);
        x.refers(8, 4, 0, 100);
        x.refers(7, 4, 0, 100);
        x.meets(0, 100);
        Due.row(x, "meets() by KEY, then FROM", 20, 7, 50, 60);
        return x;
    }

    /** "nothing without" */
    private static void meetsWithout() {
        PeriodTables x = new PeriodTables();
        Due.is("no ROWS", 0, x.meets(0, 100));
        Due.row(x, "meets() of no ROWS", 0);
        x.adds(1, 4, 0, 0, 100);
        x.adds(0, 4, 0, 0, 100);
        Due.is("the same KEY without a REF", 0, x.meets(0, 100));
        Due.row(x, "meets() without a REF", 0);
        x.refers(4, 4, 50, 60);
        Due.is("up to it", 0, x.meets(0, 50));
        Due.is("behind it", 0, x.meets(60, 100));
        Due.row(x, "meets() behind it", 0);
    }

    /** "KEYS of a TABLE that are not KEYS of the other one at the DAY" */
    private static void lacksEdges() {
        PeriodTables x = new PeriodTables();
        for (int table = 0; table < 2; table++) {
            Due.is("no ROWS", 0, x.lacks(table));
            Due.row(x, "lacks() of no ROWS", 0);
        }
        x.adds(0, 0, 1, 0, 1);
        x.adds(0, 9, 1, 99, 100);
        Due.is("the first KEY and day, the last KEY and day", 2, x.lacks(0));
        Due.row(x, "lacks()", 2, 0, 0, 1);
        Due.is("the other TABLE has none", 0, x.lacks(1));
        Due.row(x, "lacks()", 0);
        x.adds(1, 0, 7, 0, 100);
        Due.is("whatever its VALUE is", 1, x.lacks(0));
        Due.row(x, "lacks()", 1, 9, 99, 100);
        Due.is("the rest of it", 1, x.lacks(1));
        Due.row(x, "lacks()", 99, 0, 1, 100);
        x.adds(0, 0, 2, 1, 50);
        x.adds(0, 0, 2, 51, 100);
        Due.is("a day", 1, x.lacks(1));
        Due.row(x, "lacks()", 1, 0, 50, 51);
        x = new PeriodTables();
        x.adds(1, 3, 1, 0, 10);
        x.adds(1, 3, 2, 10, 20);
        x.adds(1, 2, 2, 50, 60);
        Due.is("as long as they can be; by KEY", 2, x.lacks(1));
        Due.row(x, "lacks()", 30, 2, 50, 60);
        x.adds(1, 4, 2, 20, 30);
        Due.is("another KEY goes on", 3, x.lacks(1));
    }

    /** "KEYS that are in one TABLE or both: .. at how many of these a KEY is in both" */
    private static void eitherEdges() {
        PeriodTables x = new PeriodTables();
        Due.is("no ROWS", 0, x.either());
        Due.row(x, "either() of no ROWS", 0, 0);
        x.adds(0, 0, 1, 0, 50);
        x.adds(1, 0, 1, 50, 100);
        Due.is("one behind the other", 1, x.either());
        Due.row(x, "either()", 100, 0);
        x.adds(1, 0, 1, 0, 1);
        Due.is("a day in both", 1, x.either());
        Due.row(x, "either()", 100, 1);
        x.cuts(1, 0, 50, 51);
        Due.is("a day in none", 2, x.either());
        Due.row(x, "either()", 99, 1);
        x.adds(0, 1, 1, 0, 100);
        x.adds(1, 1, 1, 0, 100);
        Due.is("all days in both", 3, x.either());
        Due.row(x, "either()", 199, 101);
        x.adds(0, 9, 1, 99, 100);
        Due.is("the last day", 4, x.either());
        Due.row(x, "either()", 200, 101);
    }

    /** "the sum; the ROW: the greatest sum of one DAY, the first DAY of that" */
    private static void sumsEdges() {
        PeriodTables x = new PeriodTables();
        Due.is("no ROWS", 0, x.sums(0, 0, 100));
        Due.row(x, "sums() of no ROWS", 0, 0);
        Due.is("no ROWS, the last day", 0, x.sums(1, 99, 100));
        Due.row(x, "sums() of no ROWS", 0, 99);
        for (int key = 0; key < 10; key++) {
            x.adds(0, key, 99, 0, 100);
        }
        Due.is("as much as can be", 99000, x.sums(0, 0, 100));
        Due.row(x, "sums()", 990, 0);
        x.sets(0, 0, 0, 0, 99);
        Due.is("the greatest at the last day", 9 * 99 * 99 + 990, x.sums(0, 0, 100));
        Due.row(x, "sums()", 990, 99);
        Due.is("without the last day", 9 * 99 * 98, x.sums(0, 1, 99));
        Due.row(x, "sums()", 891, 1);
        Due.is("the last day", 990, x.sums(0, 99, 100));
        Due.row(x, "sums()", 990, 99);
        x.sets(0, 0, 50, 40, 60);
        Due.is("the greatest within", 20 * 941, x.sums(0, 40, 60));
        Due.row(x, "sums()", 941, 40);
        Due.is("VALUES of 0 are there", 0, valuesOfNought().sums(1, 20, 30));
    }

    private static PeriodTables valuesOfNought() {
        PeriodTables x = new PeriodTables();
        x.adds(1, 3, 0, 0, 100);
        return x;
    }

    /** "-2: it is never there" */
    private static void meanNeverThere() {
        PeriodTables x = new PeriodTables();
        Seen.refused(x, "no ROWS", -2, y -> y.mean(0, 0));
        x.adds(1, 0, 0, 0, 100);
        Seen.refused(x, "never there in TABLE 0", -2, y -> y.mean(0, 0));
        Seen.refused(x, "another KEY", -2, y -> y.mean(1, 1));
        x.cuts(1, 0, 0, 100);
        Seen.refused(x, "no more there", -2, y -> y.mean(1, 0));
    }

    /** "Fractions are told in lowest terms, upper and lower number (0 by 1)." */
    private static void meanEdges() {
        PeriodTables x = new PeriodTables();
        x.adds(1, 0, 0, 0, 100);
        Due.is("of 0", 0, x.mean(1, 0));
        Due.row(x, "mean()", 0, 1, 100);
        x.sets(1, 0, 99, 0, 100);
        Due.is("of 99", 0, x.mean(1, 0));
        Due.row(x, "mean()", 99, 1, 100);
        x.sets(1, 0, 98, 0, 50);
        Due.is("of 98 and 99", 0, x.mean(1, 0));
        Due.row(x, "mean()", 197, 2, 100);
        x.sets(1, 0, 0, 0, 99);
        x.sets(1, 0, 1, 99, 100);
        Due.is("one day of a hundred", 0, x.mean(1, 0));
        Due.row(x, "mean()", 1, 100, 100);
        x.cuts(1, 0, 0, 99);
        Due.is("of one day", 0, x.mean(1, 0));
        Due.row(x, "mean()", 1, 1, 1);
        x.adds(0, 5, 30, 0, 6);
        x.adds(0, 5, 10, 50, 54);
        Due.is("over a gap", 0, x.mean(0, 5));
        Due.row(x, "mean()", 22, 1, 10);
    }

    /** "The first DAY at which the most KEYS are there" */
    private static void fullestEdges() {
        PeriodTables x = new PeriodTables();
        Due.is("no ROWS", 0, x.fullest(0));
        Due.row(x, "fullest() of no ROWS", 0, 100);
        x.adds(0, 3, 1, 99, 100);
        Due.is("the last day", 99, x.fullest(0));
        Due.row(x, "fullest()", 1, 1);
        x.adds(0, 4, 1, 0, 1);
        Due.is("the first of two", 0, x.fullest(0));
        Due.row(x, "fullest()", 1, 2);
        for (int key = 0; key < 10; key++) {
            x.adds(1, key, 0, 40, 60);
        }
        Due.is("all ten", 40, x.fullest(1));
        Due.row(x, "fullest()", 10, 20);
        x.cuts(1, 9, 41, 50);
        Due.is("two stretches", 40, x.fullest(1));
        Due.row(x, "fullest()", 10, 11);
        x.cuts(1, 9, 40, 41);
        Due.is("the second stretch", 50, x.fullest(1));
        Due.row(x, "fullest()", 10, 10);
    }

    private static PeriodTables cover(int... periods) {
        PeriodTables x = new PeriodTables();
        for (int i = 0; i < periods.length; i += 2) {
            x.adds(0, i / 2, 1, periods[i], periods[i + 1]);
        }
        return x;
    }

    /** "The fewest ROWS of a TABLE, whatever KEYS, that together have all DAYS of a PERIOD (others, too, maybe)" */
    private static void spansFewest() {
        PeriodTables x = cover(0, 100, 0, 50, 50, 100);
        Due.is("one of all", 1, x.spans(0, 0, 100));
        Due.row(x, "spans()", 0);
        x = cover(0, 50, 50, 100, 10, 90);
        Due.is("two without a day in common", 2, x.spans(0, 0, 100));
        Due.row(x, "spans()", 0, 1);
        Due.is("one that has others, too", 1, x.spans(0, 20, 80));
        Due.row(x, "spans()", 2);
        Due.is("the first day", 1, x.spans(0, 0, 1));
        Due.row(x, "spans()", 0);
        Due.is("the last day", 1, x.spans(0, 99, 100));
        Due.row(x, "spans()", 1);
        x = cover(0, 40, 39, 60, 60, 100);
        Due.is("three that are needed", 3, x.spans(0, 0, 100));
        Due.row(x, "spans()", 0, 1, 2);
        Due.is("two", 2, x.spans(0, 39, 61));
        Due.row(x, "spans()", 1, 2);
    }

    /** "(of as few the least row ..)": compared from the first on. */
    private static void spansLeastRow() {
        PeriodTables x = cover(40, 60, 0, 50, 50, 100, 0, 55, 45, 100);
        Due.is("two of four", 2, x.spans(0, 0, 100));
        Due.row(x, "spans()", 1, 2);
        x = cover(50, 100, 60, 100, 0, 60, 0, 50);
        Due.is("the first with the third", 2, x.spans(0, 0, 100));
        Due.row(x, "spans()", 0, 2);
        x = cover(61, 100, 60, 100, 0, 60, 0, 59);
        Due.is("a day between", 2, x.spans(0, 0, 100));
        Due.row(x, "spans()", 1, 2);
        x = cover(2, 10, 0, 2, 1, 10, 0, 1);
        Due.is("the first goes with the second", 2, x.spans(0, 0, 10));
        Due.row(x, "spans()", 0, 1);
        x = cover(3, 10, 0, 2, 1, 10, 0, 1);
        Due.is("the first leaves a day bare", 2, x.spans(0, 0, 10));
        Due.row(x, "spans()", 1, 2);
        x = cover(0, 1, 2, 3, 4, 5, 0, 2, 1, 3, 3, 5, 5, 6);
        Due.is("islands", 4, x.spans(0, 0, 6));
        Due.row(x, "spans()", 0, 4, 5, 6);
        x = cover(20, 30, 0, 20, 25, 50, 30, 50);
        Due.is("three, a choice of the last", 3, x.spans(0, 0, 50));
        Due.row(x, "spans()", 0, 1, 2);
        x = cover(10, 20, 0, 10, 20, 30, 0, 11, 19, 30);
        Due.is("a choice at both ends", 3, x.spans(0, 0, 30));
        Due.row(x, "spans()", 0, 1, 2);
    }

    /** "the first 12 alone" */
    private static void spansTwelveAlone() {
        for (int many = 11; many <= 20; many++) {
            PeriodTables x = new PeriodTables();
            long[] want = new long[Math.min(12, many)];
            for (int i = 0; i < many; i++) {
                x.adds(1, 0, i, 5 * i, 5 * i + 5);
            }
            for (int i = 0; i < want.length; i++) {
                want[i] = i;
            }
            Due.is(many + " rows", many, x.spans(1, 0, 5 * many));
            Due.row(x, "spans() of " + many, want);
        }
    }

    /** "-2: all have not" */
    private static void spansAllHaveNot() {
        PeriodTables x = cover(1, 50, 51, 99);
        x.rows(0);
        Seen.refused(x, "the first day", -2, y -> y.spans(0, 0, 50));
        Seen.refused(x, "a day between", -2, y -> y.spans(0, 1, 99));
        Seen.refused(x, "only that day", -2, y -> y.spans(0, 50, 51));
        Seen.refused(x, "the last day", -2, y -> y.spans(0, 51, 100));
        Seen.refused(x, "all days", -2, y -> y.spans(0, 0, 100));
        Seen.refused(x, "no ROWS", -2, y -> y.spans(1, 99, 100));
        Due.is("up to it", 1, x.spans(0, 1, 50));
        Due.row(x, "spans()", 0);
        x = cover(0, 1, 1, 2, 2, 3, 3, 4, 4, 5, 5, 6, 6, 7, 7, 8, 8, 9, 9, 99);
        Seen.refused(x, "ten rows and a day", -2, y -> y.spans(0, 0, 100));
        Due.is("ten rows", 10, x.spans(0, 0, 99));
    }

    /** "at how many DAYS (of 0 .. 99) one at least refers to it, how many ROWS of TABLE 1 .. at none of whose DAYS" */
    private static void usersEdges() {
        PeriodTables x = new PeriodTables();
        Due.is("no ROWS", 0, x.users(0));
        Due.row(x, "users() of no ROWS", 0, 0);
        x.adds(1, 9, 1, 0, 1);
        x.adds(1, 9, 1, 1, 99);
        x.adds(1, 9, 1, 99, 100);
        Due.is("none refers", 0, x.users(9));
        Due.row(x, "users()", 0, 3);
        x.adds(0, 1, 1, 99, 100);
        x.refers(1, 9, 99, 100);
        Due.is("at the last day", 1, x.users(9));
        Due.row(x, "users()", 1, 2);
        x.adds(0, 1, 1, 0, 1);
        x.refers(1, 9, 0, 1);
        Due.is("at the first day", 2, x.users(9));
        Due.row(x, "users()", 2, 1);
        x.adds(0, 2, 1, 0, 100);
        x.refers(2, 9, 0, 1);
        Due.is("two at a day", 3, x.users(9));
        Due.row(x, "users()", 2, 1);
        x.refers(2, 9, 1, 2);
        Due.is("a first day", 4, x.users(9));
        Due.row(x, "users()", 3, 0);
        x.refers(2, 9, 0, 100);
        Due.is("all days", 5, x.users(9));
        Due.row(x, "users()", 100, 0);
        Due.is("another KEY", 0, x.users(1));
        Due.row(x, "users()", 0, 0);
    }

    /** KEY 7 of TABLE 1 at 0 .. 49, to which KEYS 2 and 3 refer, at 10 .. 39 and 20 .. 49. */
    private static PeriodTables dragging() {
        PeriodTables x = new PeriodTables();
        x.adds(1, 7, 1, 0, 30);
        x.adds(1, 7, 2, 30, 50);
        x.adds(0, 2, 1, 10, 40);
        x.adds(0, 3, 2, 20, 50);
        x.adds(0, 4, 2, 20, 50);
        x.refers(2, 7, 10, 40);
        x.refers(3, 7, 20, 50);
        return x;
    }

    /** "how many DAYS of ROWS of TABLE 0 would be taken out; the ROW: of how many ROWS" */
    private static void dragsEdges() {
        PeriodTables x = dragging();
        Due.is("up to the first day", 0, x.drags(7, 0, 10));
        Due.row(x, "drags()", 0);
        Due.is("the first day", 1, x.drags(7, 0, 11));
        Due.row(x, "drags()", 1);
        Due.is("a day of both", 2, x.drags(7, 39, 40));
        Due.row(x, "drags()", 2);
        Due.is("the last day", 1, x.drags(7, 49, 100));
        Due.row(x, "drags()", 1);
        Due.is("all days", 60, x.drags(7, 0, 100));
        Due.row(x, "drags()", 2);
    }

    /** "-2: no ROW of the KEY has DAYS in the PERIOD" */
    private static void dragsOfNone() {
        PeriodTables x = dragging();
        Seen.refused(x, "behind the last day", -2, y -> y.drags(7, 50, 100));
        Seen.refused(x, "another KEY", -2, y -> y.drags(6, 0, 100));
        Seen.refused(x, "a KEY of TABLE 0 alone", -2, y -> y.drags(4, 0, 100));
        Seen.refused(new PeriodTables(), "no ROWS", -2, y -> y.drags(0, 0, 100));
    }

    /** "What cuts() of TABLE 1 would do by WAY 1", whatever WAY is; it changes nothing. */
    private static void dragsAsCutsWould() {
        for (int way = 0; way < 3; way++) {
            for (int from = 0; from < 50; from += 7) {
                for (int to = from + 1; to <= 100; to += 9) {
                    PeriodTables x = dragging();
                    x.way(way);
                    String ahead = Seen.butTheRow(x);
                    int days = x.drags(7, from, to);
                    Seen.same("drags() changes nothing", ahead, Seen.butTheRow(x));
                    x.way(1);
                    x.cuts(1, 7, from, to);
                    Due.is("as cuts() of " + from + " .. " + to, x.row(1), days);
                }
            }
        }
    }

    /** "NONE: no PERIOD." */
    private static void meetsRefused() {
        PeriodTables x = dragging();
        for (int[] bad : Wrong.PERIODS) {
            Seen.refused(x, "meets() PERIOD", -1, y -> y.meets(bad[0], bad[1]));
        }
    }

    /** "NONE: none such." */
    private static void lacksRefused() {
        PeriodTables x = dragging();
        for (int bad : Wrong.TABLES) {
            Seen.refused(x, "lacks() TABLE", -1, y -> y.lacks(bad));
        }
    }

    /** "NONE: others." */
    private static void sumsRefused() {
        PeriodTables x = dragging();
        for (int bad : Wrong.TABLES) {
            Seen.refused(x, "sums() TABLE", -1, y -> y.sums(bad, 0, 1));
        }
        for (int[] bad : Wrong.PERIODS) {
            Seen.refused(x, "sums() PERIOD", -1, y -> y.sums(0, bad[0], bad[1]));
            Seen.refused(x, "sums() PERIOD", -1, y -> y.sums(1, bad[0], bad[1]));
        }
    }

    /** "NONE: others." */
    private static void meanRefused() {
        PeriodTables x = dragging();
        for (int bad : Wrong.TABLES) {
            Seen.refused(x, "mean() TABLE", -1, y -> y.mean(bad, 7));
        }
        for (int bad : Wrong.KEYS) {
            Seen.refused(x, "mean() KEY", -1, y -> y.mean(0, bad));
            Seen.refused(new PeriodTables(), "mean() KEY ahead of never there", -1, y -> y.mean(1, bad));
        }
    }

    /** "NONE: none such." */
    private static void fullestRefused() {
        PeriodTables x = dragging();
        for (int bad : Wrong.TABLES) {
            Seen.refused(x, "fullest() TABLE", -1, y -> y.fullest(bad));
        }
    }

    /** "NONE: others." */
    private static void spansRefused() {
        PeriodTables x = dragging();
        for (int bad : Wrong.TABLES) {
            Seen.refused(x, "spans() TABLE", -1, y -> y.spans(bad, 0, 1));
        }
        for (int[] bad : Wrong.PERIODS) {
            Seen.refused(x, "spans() PERIOD", -1, y -> y.spans(1, bad[0], bad[1]));
            Seen.refused(new PeriodTables(), "spans() PERIOD ahead of -2", -1, y -> y.spans(0, bad[0], bad[1]));
        }
    }

    /** "NONE: none such." */
    private static void usersRefused() {
        PeriodTables x = dragging();
        for (int bad : Wrong.KEYS) {
            Seen.refused(x, "users() KEY", -1, y -> y.users(bad));
        }
    }

    /** "NONE: others." */
    private static void dragsRefused() {
        PeriodTables x = dragging();
        for (int bad : Wrong.KEYS) {
            Seen.refused(x, "drags() KEY", -1, y -> y.drags(bad, 0, 100));
        }
        for (int[] bad : Wrong.PERIODS) {
            Seen.refused(x, "drags() PERIOD", -1, y -> y.drags(7, bad[0], bad[1]));
            Seen.refused(x, "drags() PERIOD ahead of none there", -1, y -> y.drags(6, bad[0], bad[1]));
        }
    }
}
