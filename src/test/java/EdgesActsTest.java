/** Promises 6 to 12: each sentence that names an edge, by itself. */
public final class EdgesActsTest {
    public static void main(String[] args) {
        addsNotOnce();
        addsRefused();
        addsTooMany();
        addsOrder();
        setsEachPlace();
        setsLeftAsItIs();
        setsNoneHad();
        setsRefused();
        setsTooMany();
        setsOrder();
        refersEdges();
        refersNoneHad();
        refersCoveredBySeveral();
        refersNotHeld();
        refersRefused();
        refersTooMany();
        refersOrder();
        cutsEachPlace();
        cutsNoneHad();
        cutsBeneath();
        cutsRefused();
        cutsTooMany();
        cutsOrder();
        wayOneTakesOut();
        wayTwoLetsGo();
        wayToTwenty();
        shiftsEdges();
        shiftsOfNone();
        shiftsDaysThatAreNone();
        shiftsNotHeld();
        shiftsByWay();
        shiftsRefused();
        shiftsTooMany();
        shiftsOrder();
        joinsAlike();
        joinsNothing();
        joinsNotAlike();
        joinsAtTheEdges();
        joinsRefused();
        wayBecomes();
        wayIsSo();
        wayRefused();
        behindUndo();
        Due.finish("EdgesActsTest");
    }

    /** "-2: not ONCE then" */
    private static void addsNotOnce() {
        PeriodTables x = new PeriodTables();
        x.adds(0, 3, 1, 10, 20);
        x.adds(0, 3, 2, 30, 40);
        Seen.refused(x, "its first day", -2, y -> y.adds(0, 3, 5, 5, 11));
        Seen.refused(x, "its last day", -2, y -> y.adds(0, 3, 5, 19, 25));
        Seen.refused(x, "a day within", -2, y -> y.adds(0, 3, 5, 15, 16));
        Seen.refused(x, "the same days", -2, y -> y.adds(0, 3, 5, 10, 20));
        Seen.refused(x, "all days", -2, y -> y.adds(0, 3, 5, 0, 100));
        Seen.refused(x, "days of two", -2, y -> y.adds(0, 3, 5, 19, 31));
        Seen.refused(x, "the same VALUE, too", -2, y -> y.adds(0, 3, 1, 19, 21));
        Due.is("between, no day in common", 1, x.adds(0, 3, 5, 20, 30));
        Due.is("ahead, no day in common", 0, x.adds(0, 3, 5, 0, 10));
        Due.is("behind, no day in common", 4, x.adds(0, 3, 5, 40, 100));
        Due.is("another KEY", 5, x.adds(0, 4, 5, 0, 100));
        Due.is("the other TABLE", 0, x.adds(1, 3, 5, 0, 100));
    }

    /** 20 rows of each table, all of two days: keys 0 .. 9 at days 0, 1 and 10, 11. */
    private static PeriodTables full() {
        PeriodTables x = new PeriodTables();
        for (int i = 0; i < 40; i++) {
            x.adds(i / 20, i / 2 % 10, 50, i % 2 * 10, i % 2 * 10 + 2);
        }
        x.rows(0);
        return x;
    }

    /** "NONE: others, VALUE below 0 or above 99" */
    private static void addsRefused() {
        PeriodTables x = full();
        x.cuts(0, 5, 0, 100);
        x.cuts(1, 5, 0, 100);
        for (int table = 0; table < 2; table++) {
            int t = table;
            for (int bad : Wrong.VALUES) {
                Seen.refused(x, "no VALUE", -1, y -> y.adds(t, 5, bad, 0, 1));
            }
            for (int bad : Wrong.KEYS) {
                Seen.refused(x, "no KEY", -1, y -> y.adds(t, bad, 5, 0, 1));
            }
            for (int[] bad : Wrong.PERIODS) {
                Seen.refused(x, "no PERIOD", -1, y -> y.adds(t, 5, 5, bad[0], bad[1]));
            }
        }
        for (int bad : Wrong.TABLES) {
            Seen.refused(x, "no TABLE", -1, y -> y.adds(bad, 5, 5, 0, 1));
        }
        Due.is("none of these", 10, x.adds(0, 5, 0, 0, 1));
        Due.is("none of these", 11, x.adds(0, 5, 99, 99, 100));
    }

    /** "-9": the 20th comes, the 21st does not. */
    private static void addsTooMany() {
        for (int table = 0; table < 2; table++) {
            int t = table;
            PeriodTables x = full();
            Seen.refused(x, "the 21st", -9, y -> y.adds(t, 5, 1, 50, 60));
            x.cuts(table, 9, 10, 12);
            Due.is("the 20th", 12, x.adds(table, 5, 1, 50, 60));
            Seen.refused(x, "the 21st", -9, y -> y.adds(t, 9, 1, 10, 12));
        }
    }

    /** "NONE comes ahead of other answers below 0"; "-9: .. (asked behind all others)" */
    private static void addsOrder() {
        PeriodTables x = full();
        Seen.refused(x, "no VALUE ahead of not ONCE", -1, y -> y.adds(0, 0, 100, 0, 1));
        Seen.refused(x, "no VALUE ahead of too many", -1, y -> y.adds(0, 0, -1, 50, 51));
        Seen.refused(x, "no PERIOD ahead of too many", -1, y -> y.adds(1, 0, 1, 50, 50));
        Seen.refused(x, "not ONCE ahead of too many", -2, y -> y.adds(0, 0, 1, 1, 2));
        Seen.refused(x, "not ONCE ahead of too many", -2, y -> y.adds(1, 9, 1, 9, 11));
        Seen.refused(x, "too many", -9, y -> y.adds(1, 9, 1, 9, 10));
    }

    private static PeriodTables oneRow() {
        PeriodTables x = new PeriodTables();
        x.adds(0, 3, 30, 10, 20);
        x.adds(0, 4, 40, 0, 100);
        x.adds(1, 7, 70, 0, 100);
        x.refers(3, 7, 0, 100);
        return x;
    }

    private static void set(int from, int to, int rows, int... want) {
        PeriodTables x = oneRow();
        String when = "behind sets() of " + from + " .. " + to;
        Due.is(when, 1, x.sets(0, 3, 31, from, to));
        Due.row(x, when, rows);
        int[] all = new int[want.length + 5];
        System.arraycopy(want, 0, all, 0, want.length);
        System.arraycopy(new int[] {4, 40, 0, 100, 10}, 0, all, want.length, 5);
        Due.table(x, when, 0, all);
    }

    /** "the PERIOD is TAKEN out of it, and a ROW of the DAYS that were, VALUE the new one, REF its own, comes" */
    private static void setsEachPlace() {
        set(0, 11, 3, 3, 31, 10, 11, 7, 3, 30, 11, 20, 7);
        set(10, 11, 3, 3, 31, 10, 11, 7, 3, 30, 11, 20, 7);
        set(19, 20, 3, 3, 30, 10, 19, 7, 3, 31, 19, 20, 7);
        set(19, 100, 3, 3, 30, 10, 19, 7, 3, 31, 19, 20, 7);
        set(14, 15, 4, 3, 30, 10, 14, 7, 3, 31, 14, 15, 7, 3, 30, 15, 20, 7);
        set(11, 19, 4, 3, 30, 10, 11, 7, 3, 31, 11, 19, 7, 3, 30, 19, 20, 7);
        set(10, 20, 2, 3, 31, 10, 20, 7);
        set(0, 100, 2, 3, 31, 10, 20, 7);
    }

    /** "a ROW whose VALUE is that already is left as it is"; "(those left as they are, too)" */
    private static void setsLeftAsItIs() {
        PeriodTables x = oneRow();
        x.keep(0);
        x.again(0);
        Due.is("its own VALUE within it", 1, x.sets(0, 3, 30, 14, 15));
        Due.row(x, "sets()", 2);
        Due.table(x, "it is not split", 0, 3, 30, 10, 20, 7, 4, 40, 0, 100, 10);
        Due.is("it can be undone", 1, x.count(7));
        x.adds(0, 3, 31, 20, 30);
        x.adds(0, 3, 32, 40, 50);
        Due.is("one of three is left", 3, x.sets(0, 3, 31, 19, 41));
        Due.row(x, "sets()", 6);
        Due.table(x, "one of three is left", 0, 3, 30, 10, 19, 7, 3, 31, 19, 20, 7, 3, 31, 20, 30, 10,
                3, 31, 40, 41, 10, 3, 32, 41, 50, 10, 4, 40, 0, 100, 10);
        Due.is("VALUE beneath a REF", 1, x.sets(1, 7, 0, 10, 20));
        Due.row(x, "sets()", 3);
    }

    /** "-2: none had" */
    private static void setsNoneHad() {
        PeriodTables x = oneRow();
        Seen.refused(x, "up to its first day", -2, y -> y.sets(0, 3, 31, 0, 10));
        Seen.refused(x, "from behind its last day on", -2, y -> y.sets(0, 3, 31, 20, 100));
        Seen.refused(x, "another KEY", -2, y -> y.sets(0, 5, 31, 0, 100));
        Seen.refused(x, "the other TABLE", -2, y -> y.sets(1, 3, 31, 0, 100));
        Seen.refused(new PeriodTables(), "no ROWS", -2, y -> y.sets(0, 0, 0, 0, 100));
    }

    /** "NONE: as adds()" */
    private static void setsRefused() {
        PeriodTables x = oneRow();
        for (int[] bad : Wrong.PERIODS) {
            Seen.refused(x, "no PERIOD", -1, y -> y.sets(0, 3, 1, bad[0], bad[1]));
        }
        for (int bad : Wrong.TABLES) {
            Seen.refused(x, "no TABLE", -1, y -> y.sets(bad, 3, 1, 10, 20));
        }
        for (int bad : Wrong.KEYS) {
            Seen.refused(x, "no KEY", -1, y -> y.sets(0, bad, 1, 10, 20));
        }
        for (int bad : Wrong.VALUES) {
            Seen.refused(x, "no VALUE", -1, y -> y.sets(0, 3, bad, 10, 20));
        }
        Due.is("none of these", 1, x.sets(0, 3, 0, 19, 100));
        Due.is("none of these", 1, x.sets(0, 3, 99, 0, 11));
    }

    /** NONE ahead of -2 and -9, -2 ahead of -9. */
    private static void setsOrder() {
        PeriodTables x = full();
        Seen.refused(x, "no VALUE ahead of none had", -1, y -> y.sets(0, 0, 100, 50, 51));
        Seen.refused(x, "no VALUE ahead of too many", -1, y -> y.sets(0, 0, -1, 0, 1));
        Seen.refused(x, "none had, and no room", -2, y -> y.sets(0, 0, 1, 50, 51));
        Seen.refused(x, "one more", -9, y -> y.sets(0, 0, 1, 1, 2));
        Seen.refused(x, "one more, of TABLE 1", -9, y -> y.sets(1, 9, 1, 0, 1));
    }

    /** "-9": as many rows as may be, and one more. */
    private static void setsTooMany() {
        PeriodTables x = full();
        Due.is("none more", 2, x.sets(0, 0, 0, 0, 100));
        Due.row(x, "sets()", 20);
        Due.is("VALUE 99", 1, x.sets(0, 0, 99, 0, 2));
        x.cuts(0, 9, 10, 12);
        Due.is("to 20", 1, x.sets(0, 1, 0, 0, 1));
        Due.row(x, "sets()", 20);
        x.joins(0);
        x.cuts(0, 8, 10, 12);
        x.sets(0, 0, 1, 0, 2);
        x.cuts(0, 0, 10, 12);
        x.adds(0, 0, 1, 20, 23);
        Due.is("19", 19, x.count(0));
        Seen.refused(x, "two more than 19", -9, y -> y.sets(0, 0, 2, 21, 22));
        Due.is("one more than 19", 1, x.sets(0, 0, 2, 21, 23));
        Due.row(x, "sets()", 20);
    }

    /** "REF of a KEY of TABLE 0 becomes another one (0 .. 10)" */
    private static void refersEdges() {
        PeriodTables x = new PeriodTables();
        x.adds(0, 0, 1, 0, 100);
        x.adds(1, 0, 1, 0, 100);
        x.adds(1, 9, 1, 0, 100);
        Due.is("REF 0", 1, x.refers(0, 0, 0, 1));
        Due.row(x, "refers()", 2);
        Due.is("REF 9", 1, x.refers(0, 9, 99, 100));
        Due.row(x, "refers()", 3);
        Due.table(x, "behind refers()", 0, 0, 1, 0, 1, 0, 0, 1, 1, 99, 10, 0, 1, 99, 100, 9);
        Due.is("REF 10", 3, x.refers(0, 10, 0, 100));
        Due.row(x, "refers()", 3);
        Due.table(x, "behind refers()", 0, 0, 1, 0, 1, 10, 0, 1, 1, 99, 10, 0, 1, 99, 100, 10);
        for (int bad : Wrong.REFS) {
            Seen.refused(x, "REF " + bad, -1, y -> y.refers(0, bad, 0, 1));
        }
        Due.is("left as it is, not split", 1, x.refers(0, 10, 50, 51));
        Due.row(x, "refers()", 3);
    }

    /** "COVERED: a KEY of TABLE 1 is at each DAY of a PERIOD (by one ROW or several)." */
    private static void refersCoveredBySeveral() {
        PeriodTables x = new PeriodTables();
        x.adds(0, 1, 1, 10, 40);
        x.adds(1, 5, 1, 10, 20);
        x.adds(1, 5, 2, 20, 21);
        x.adds(1, 5, 3, 21, 40);
        Due.is("by three", 1, x.refers(1, 5, 0, 100));
        Due.table(x, "by three", 0, 1, 1, 10, 40, 5);
        x.refers(1, 10, 0, 100);
        x.cuts(1, 5, 20, 21);
        Seen.refused(x, "a day is not", -3, y -> y.refers(1, 5, 0, 100));
        Due.is("up to it", 1, x.refers(1, 5, 0, 20));
        Due.is("behind it", 1, x.refers(1, 5, 21, 100));
    }

    /** "-3: not HELD then" */
    private static void refersNotHeld() {
        PeriodTables x = new PeriodTables();
        x.adds(1, 5, 1, 11, 19);
        for (int key = 0; key < 6; key++) {
            x.adds(0, key, key, 10, 20);
        }
        x.rows(0);
        for (int key = 0; key < 6; key++) {
            int k = key;
            Seen.refused(x, "its first day is not", -3, y -> y.refers(k, 5, 10, 12));
            Seen.refused(x, "its last day is not", -3, y -> y.refers(k, 5, 18, 20));
            Seen.refused(x, "another KEY is not", -3, y -> y.refers(k, 4, 12, 13));
            Due.is("all is", 1, x.refers(key, 5, 11, 19));
            Due.row(x, "refers()", 6 + 2 * (key + 1));
        }
    }

    /** "-2: none had" */
    private static void refersNoneHad() {
        PeriodTables x = oneRow();
        Seen.refused(x, "up to its first day", -2, y -> y.refers(3, 10, 0, 10));
        Seen.refused(x, "from behind its last day on", -2, y -> y.refers(3, 10, 20, 100));
        Seen.refused(x, "another KEY", -2, y -> y.refers(5, 10, 0, 100));
        Seen.refused(x, "a KEY of TABLE 1 alone", -2, y -> y.refers(7, 10, 0, 100));
        Seen.refused(new PeriodTables(), "no ROWS", -2, y -> y.refers(0, 10, 0, 100));
    }

    /** "NONE: others" */
    private static void refersRefused() {
        PeriodTables x = oneRow();
        for (int[] bad : Wrong.PERIODS) {
            Seen.refused(x, "no PERIOD", -1, y -> y.refers(3, 10, bad[0], bad[1]));
        }
        for (int bad : Wrong.KEYS) {
            Seen.refused(x, "no KEY", -1, y -> y.refers(bad, 10, 10, 20));
        }
        for (int bad : Wrong.REFS) {
            Seen.refused(x, "no REF", -1, y -> y.refers(3, bad, 10, 20));
        }
    }

    /** "-9": as many rows as may be, and one more. */
    private static void refersTooMany() {
        PeriodTables x = full();
        Seen.refused(x, "to 21", -9, y -> y.refers(0, 5, 0, 1));
        Due.is("none more", 2, x.refers(0, 6, 0, 100));
        Due.row(x, "refers()", 20);
        Seen.refused(x, "to none, to 22", -9, y -> y.refers(0, 10, 1, 11));
        x.cuts(0, 9, 10, 12);
        Due.is("to 20", 1, x.refers(0, 10, 1, 10));
        Due.row(x, "refers()", 20);
    }

    /** NONE ahead of -2, -2 ahead of -3, -3 ahead of -9. */
    private static void refersOrder() {
        PeriodTables x = full();
        Seen.refused(x, "no REF ahead of none had", -1, y -> y.refers(0, 11, 50, 51));
        Seen.refused(x, "no REF ahead of too many", -1, y -> y.refers(0, 11, 0, 1));
        Seen.refused(x, "none had ahead of not HELD", -2, y -> y.refers(0, 0, 2, 10));
        x.cuts(1, 5, 0, 1);
        Seen.refused(x, "not HELD ahead of too many", -3, y -> y.refers(0, 5, 0, 1));
        Seen.refused(x, "it would be HELD, too many", -9, y -> y.refers(0, 5, 1, 2));
    }

    private static void cut(int from, int to, int days, int... want) {
        PeriodTables x = new PeriodTables();
        x.adds(0, 3, 30, 10, 20);
        x.adds(1, 3, 30, 10, 20);
        x.refers(3, 3, 0, 100);
        String when = "behind cuts() of " + from + " .. " + to;
        Due.is(when, 1, x.cuts(0, 3, from, to));
        Due.row(x, when, days, 0);
        Due.table(x, when, 0, want);
        Due.table(x, when, 1, 3, 30, 10, 20, 10);
    }

    /** "what of it lies in that is gone; of what is left ahead and behind each is a ROW, VALUE and REF as they were" */
    private static void cutsEachPlace() {
        cut(0, 11, 1, 3, 30, 11, 20, 3);
        cut(10, 11, 1, 3, 30, 11, 20, 3);
        cut(19, 20, 1, 3, 30, 10, 19, 3);
        cut(19, 100, 1, 3, 30, 10, 19, 3);
        cut(14, 15, 1, 3, 30, 10, 14, 3, 3, 30, 15, 20, 3);
        cut(11, 19, 8, 3, 30, 10, 11, 3, 3, 30, 19, 20, 3);
        cut(10, 20, 10);
        cut(0, 100, 10);
        PeriodTables x = new PeriodTables();
        x.adds(0, 3, 1, 0, 10);
        x.adds(0, 3, 2, 10, 20);
        x.adds(0, 3, 3, 30, 40);
        Due.is("three rows", 3, x.cuts(0, 3, 9, 31));
        Due.row(x, "cuts()", 1 + 10 + 1, 0);
        Due.table(x, "behind cuts()", 0, 3, 1, 0, 9, 10, 3, 3, 31, 40, 10);
    }

    /** "-2: none had" */
    private static void cutsNoneHad() {
        PeriodTables x = oneRow();
        Seen.refused(x, "up to its first day", -2, y -> y.cuts(0, 3, 0, 10));
        Seen.refused(x, "from behind its last day on", -2, y -> y.cuts(0, 3, 20, 100));
        Seen.refused(x, "another KEY", -2, y -> y.cuts(0, 5, 0, 100));
        Seen.refused(x, "the other TABLE", -2, y -> y.cuts(1, 3, 0, 100));
        Seen.refused(new PeriodTables(), "no ROWS", -2, y -> y.cuts(1, 0, 0, 100));
        x.cuts(0, 3, 12, 18);
        Seen.refused(x, "it was cut", -2, y -> y.cuts(0, 3, 12, 18));
    }

    /** KEY 7 of TABLE 1 at 0 .. 49, and KEY 2 of TABLE 0 that refers to it at 10 .. 39. */
    private static PeriodTables referring() {
        PeriodTables x = new PeriodTables();
        x.adds(1, 7, 1, 0, 50);
        x.adds(0, 2, 9, 10, 40);
        x.refers(2, 7, 10, 40);
        return x;
    }

    /** "-3: WAY is 0, and not HELD then" */
    private static void cutsBeneath() {
        PeriodTables x = referring();
        Seen.refused(x, "its first day", -3, y -> y.cuts(1, 7, 0, 11));
        Seen.refused(x, "its last day", -3, y -> y.cuts(1, 7, 39, 40));
        Seen.refused(x, "a day within", -3, y -> y.cuts(1, 7, 20, 21));
        Seen.refused(x, "all days", -3, y -> y.cuts(1, 7, 0, 100));
        Due.is("up to its first day", 1, x.cuts(1, 7, 0, 10));
        Due.row(x, "cuts()", 10, 0);
        Due.is("from behind its last day on", 1, x.cuts(1, 7, 40, 100));
        Due.row(x, "cuts()", 10, 0);
        Due.is("TABLE 0 is cut all the same", 1, x.cuts(0, 2, 10, 20));
        Due.is("what no more refers", 1, x.cuts(1, 7, 0, 20));
        Due.table(x, "behind cuts()", 1, 7, 1, 20, 40, 10);
        x.adds(1, 6, 1, 0, 100);
        Due.is("another KEY", 1, x.cuts(1, 6, 20, 40));
    }

    /** "NONE: others" */
    private static void cutsRefused() {
        PeriodTables x = referring();
        for (int[] bad : Wrong.PERIODS) {
            Seen.refused(x, "no PERIOD", -1, y -> y.cuts(0, 2, bad[0], bad[1]));
            Seen.refused(x, "no PERIOD", -1, y -> y.cuts(1, 7, bad[0], bad[1]));
        }
        for (int bad : Wrong.TABLES) {
            Seen.refused(x, "no TABLE", -1, y -> y.cuts(bad, 7, 0, 100));
        }
        for (int bad : Wrong.KEYS) {
            Seen.refused(x, "no KEY", -1, y -> y.cuts(0, bad, 0, 100));
            Seen.refused(x, "no KEY", -1, y -> y.cuts(1, bad, 0, 100));
        }
    }

    /** NONE ahead of -3, -2 ahead of -9, -3 ahead of -9. */
    private static void cutsOrder() {
        PeriodTables x = referring();
        Seen.refused(x, "no PERIOD ahead of not HELD", -1, y -> y.cuts(1, 7, 0, 101));
        Seen.refused(x, "no PERIOD ahead of none had", -1, y -> y.cuts(1, 7, 50, 101));
        for (int i = 0; i < 19; i++) {
            x.adds(1, 8, i, 2 * i, 2 * i + 1);
        }
        Seen.refused(x, "none had, and no room", -2, y -> y.cuts(1, 7, 50, 100));
        Seen.refused(x, "not HELD ahead of too many", -3, y -> y.cuts(1, 7, 20, 21));
        Seen.refused(x, "HELD, too many", -9, y -> y.cuts(1, 7, 5, 6));
        x.way(1);
        Seen.refused(x, "by WAY 1, too many of TABLE 1", -9, y -> y.cuts(1, 7, 20, 21));
    }

    /** "-9": as many rows as may be, and one more. */
    private static void cutsTooMany() {
        PeriodTables x = full();
        x.cuts(0, 9, 0, 100);
        x.adds(0, 9, 1, 0, 3);
        Due.is("19", 19, x.count(0));
        Due.is("to 20", 1, x.cuts(0, 9, 1, 2));
        Due.row(x, "cuts()", 1, 0);
        Due.is("20", 20, x.count(0));
        x.cuts(0, 9, 0, 100);
        x.adds(0, 9, 1, 0, 3);
        x.adds(0, 9, 1, 50, 51);
        Seen.refused(x, "to 21", -9, y -> y.cuts(0, 9, 1, 2));
        Due.is("split, and one gone", 2, x.cuts(0, 9, 2, 100));
        Due.is("19", 19, x.count(0));
    }

    /** "1: at each DAY at which it would not be it is taken out" */
    private static void wayOneTakesOut() {
        int[][] want = {{2, 9, 11, 40, 7}, {2, 9, 10, 39, 7}, {2, 9, 10, 20, 7, 2, 9, 21, 40, 7}, {}};
        int[][] periods = {{0, 11}, {39, 100}, {20, 21}, {10, 40}};
        int[][] told = {{11, 1}, {11, 1}, {1, 1}, {30, 30}};
        for (int k = 0; k < periods.length; k++) {
            PeriodTables x = referring();
            x.way(1);
            String when = "cut " + periods[k][0] + " .. " + periods[k][1] + " along";
            Due.is(when, 1, x.cuts(1, 7, periods[k][0], periods[k][1]));
            Due.row(x, when, told[k][0], told[k][1]);
            Due.table(x, when, 0, want[k]);
        }
        PeriodTables x = referring();
        x.way(1);
        Due.is("not beneath it", 1, x.cuts(1, 7, 40, 50));
        Due.row(x, "cuts()", 10, 0);
        Due.table(x, "it stays", 0, 2, 9, 10, 40, 7);
    }

    /** "2: at each such DAY REF is 10: the ROW is split there: a ROW for each stretch of DAYS, as long as it can be" */
    private static void wayTwoLetsGo() {
        int[][] want = {{2, 9, 10, 11, 10, 2, 9, 11, 40, 7}, {2, 9, 10, 39, 7, 2, 9, 39, 40, 10},
            {2, 9, 10, 20, 7, 2, 9, 20, 21, 10, 2, 9, 21, 40, 7}, {2, 9, 10, 40, 10}};
        int[][] periods = {{0, 11}, {39, 100}, {20, 21}, {10, 40}};
        int[][] told = {{11, 1}, {11, 1}, {1, 1}, {30, 30}};
        for (int k = 0; k < periods.length; k++) {
            PeriodTables x = referring();
            x.way(2);
            String when = periods[k][0] + " .. " + periods[k][1] + " let go";
            Due.is(when, 1, x.cuts(1, 7, periods[k][0], periods[k][1]));
            Due.row(x, when, told[k][0], told[k][1]);
            Due.table(x, when, 0, want[k]);
        }
        PeriodTables x = referring();
        x.way(2);
        x.adds(0, 2, 9, 40, 50);
        x.cuts(1, 7, 39, 40);
        Due.table(x, "rows that were two stay two", 0, 2, 9, 10, 39, 7, 2, 9, 39, 40, 10, 2, 9, 40, 50, 10);
    }

    /** TABLE 0 to 20 rows, and to 21. */
    private static void wayToTwenty() {
        for (int way = 1; way < 3; way++) {
            PeriodTables x = referring();
            for (int i = 0; i < 20 - way; i++) {
                x.adds(0, 3, i, 2 * i, 2 * i + 1);
            }
            x.way(way);
            Seen.refused(x, "to 21 by WAY " + way, -9, y -> y.cuts(1, 7, 20, 21));
            x.cuts(0, 3, 0, 1);
            Due.is("to 20 by WAY " + way, 1, x.cuts(1, 7, 20, 21));
            Due.row(x, "cuts()", 1, 1);
            Due.is("20", 20, x.count(0));
        }
    }

    /** "by (-99 .. 99, not 0)" */
    private static void shiftsEdges() {
        for (int table = 0; table < 2; table++) {
            int t = table;
            PeriodTables x = new PeriodTables();
            x.adds(table, 0, 1, 0, 1);
            Due.is("by 99", 1, x.shifts(table, 0, 99));
            Due.table(x, "by 99", table, 0, 1, 99, 100, 10);
            Due.is("by -99", 1, x.shifts(table, 0, -99));
            Due.table(x, "by -99", table, 0, 1, 0, 1, 10);
            Due.is("by 1", 1, x.shifts(table, 0, 1));
            Due.is("by -1", 1, x.shifts(table, 0, -1));
            for (int bad : Wrong.STEPS) {
                Seen.refused(x, "by " + bad, -1, y -> y.shifts(t, 0, bad));
            }
        }
    }

    /** "-3: one would have DAYS that are none" */
    private static void shiftsDaysThatAreNone() {
        PeriodTables x = new PeriodTables();
        x.adds(0, 4, 1, 10, 20);
        x.adds(0, 4, 2, 80, 90);
        x.adds(0, 5, 3, 0, 100);
        Seen.refused(x, "the first ROW's first day", -3, y -> y.shifts(0, 4, -11));
        Seen.refused(x, "the last ROW's last day", -3, y -> y.shifts(0, 4, 11));
        Seen.refused(x, "all of a ROW", -3, y -> y.shifts(0, 4, -50));
        Seen.refused(x, "all of all", -3, y -> y.shifts(0, 4, 99));
        Seen.refused(x, "it has all days", -3, y -> y.shifts(0, 5, 1));
        Seen.refused(x, "it has all days", -3, y -> y.shifts(0, 5, -1));
        Due.is("to day 0", 2, x.shifts(0, 4, -10));
        Due.is("to day 99", 2, x.shifts(0, 4, 20));
        Due.table(x, "to day 99", 0, 4, 1, 20, 30, 10, 4, 2, 90, 100, 10, 5, 3, 0, 100, 10);
    }

    /** "-2: there is none" */
    private static void shiftsOfNone() {
        PeriodTables x = oneRow();
        Seen.refused(x, "another KEY", -2, y -> y.shifts(0, 5, 1));
        Seen.refused(x, "the other TABLE", -2, y -> y.shifts(1, 3, -1));
        Seen.refused(x, "a KEY of TABLE 1 alone", -2, y -> y.shifts(0, 7, 99));
        Seen.refused(new PeriodTables(), "no ROWS", -2, y -> y.shifts(1, 0, 1));
    }

    /** "-4: not HELD then, as all ROWS are then (in TABLE 0; in TABLE 1, if WAY is 0)" */
    private static void shiftsNotHeld() {
        for (int way = 0; way < 3; way++) {
            PeriodTables x = referring();
            x.way(way);
            Due.is("up to its last day", 1, x.shifts(0, 2, 10));
            Due.is("to its first day", 1, x.shifts(0, 2, -20));
            Due.is("and back", 1, x.shifts(0, 2, 10));
            Seen.refused(x, "beyond its last day", -4, y -> y.shifts(0, 2, 11));
            Seen.refused(x, "beyond its days", -4, y -> y.shifts(0, 2, 60));
        }
        PeriodTables x = referring();
        Seen.refused(x, "TABLE 1 away, ahead", -4, y -> y.shifts(1, 7, 11));
        Due.is("TABLE 1 up to its first day", 1, x.shifts(1, 7, 10));
        Seen.refused(x, "one day more", -4, y -> y.shifts(1, 7, 1));
        x.adds(1, 7, 2, 0, 10);
        Due.is("other ROWS of the KEY come there", 2, x.shifts(1, 7, 1));
    }

    /** "(in TABLE 1 then what WAY says of what would no more be COVERED, as the ROWS are then)" */
    private static void shiftsByWay() {
        PeriodTables x = referring();
        x.way(1);
        Due.is("one day is taken out", 1, x.shifts(1, 7, 11));
        Due.table(x, "by WAY 1", 0, 2, 9, 11, 40, 7);
        Due.is("all is taken out", 1, x.shifts(1, 7, 30));
        Due.table(x, "by WAY 1", 0);
        Due.table(x, "by WAY 1", 1, 7, 1, 41, 91, 10);
        x = new PeriodTables();
        x.adds(1, 7, 1, 20, 40);
        x.adds(1, 7, 2, 50, 100);
        x.adds(0, 2, 9, 20, 40);
        x.adds(0, 2, 8, 60, 100);
        x.refers(2, 7, 0, 100);
        x.way(2);
        Due.is("let go ahead, in a gap, behind", 2, x.shifts(1, 7, -15));
        Due.table(x, "by WAY 2", 0, 2, 9, 20, 25, 7, 2, 9, 25, 35, 10, 2, 9, 35, 40, 7, 2, 8, 60, 85, 7,
                2, 8, 85, 100, 10);
        Due.table(x, "by WAY 2", 1, 7, 1, 5, 25, 10, 7, 2, 35, 85, 10);
        x.undo();
        x.way(1);
        Due.is("taken out ahead, in a gap, behind", 2, x.shifts(1, 7, -15));
        Due.table(x, "by WAY 1", 0, 2, 9, 20, 25, 7, 2, 9, 35, 40, 7, 2, 8, 60, 85, 7);
    }

    /** "NONE: others" */
    private static void shiftsRefused() {
        PeriodTables x = referring();
        for (int bad : Wrong.TABLES) {
            Seen.refused(x, "no TABLE", -1, y -> y.shifts(bad, 2, 1));
        }
        for (int bad : Wrong.KEYS) {
            Seen.refused(x, "no KEY", -1, y -> y.shifts(0, bad, 1));
            Seen.refused(x, "no KEY", -1, y -> y.shifts(1, bad, -1));
        }
        for (int bad : Wrong.STEPS) {
            Seen.refused(x, "no step", -1, y -> y.shifts(0, 2, bad));
            Seen.refused(x, "no step", -1, y -> y.shifts(1, 7, bad));
        }
    }

    /** "-9": TABLE 0 to 20 rows by WAY, and to 21. */
    private static void shiftsTooMany() {
        PeriodTables x = referring();
        for (int i = 0; i < 19; i++) {
            x.adds(0, 3, i, 2 * i, 2 * i + 1);
        }
        x.way(2);
        Seen.refused(x, "to 21", -9, y -> y.shifts(1, 7, 11));
        x.way(1);
        Due.is("by WAY 1 none more", 1, x.shifts(1, 7, 11));
        Due.is("20", 20, x.count(0));
        x.undo();
        x.way(2);
        x.cuts(0, 3, 0, 1);
        Due.is("to 20", 1, x.shifts(1, 7, 11));
        Due.is("20", 20, x.count(0));
    }

    /** NONE ahead of -2, -3; -3 ahead of -4 and -9. */
    private static void shiftsOrder() {
        PeriodTables x = referring();
        Seen.refused(x, "by 0 ahead of none", -1, y -> y.shifts(0, 3, 0));
        Seen.refused(x, "by 100 ahead of no days", -1, y -> y.shifts(0, 2, 100));
        Seen.refused(x, "no days ahead of not HELD", -3, y -> y.shifts(0, 2, 61));
        Seen.refused(x, "no days ahead of not HELD", -3, y -> y.shifts(1, 7, 51));
        for (int i = 0; i < 19; i++) {
            x.adds(0, 3, i, 2 * i, 2 * i + 1);
        }
        Seen.refused(x, "not HELD", -4, y -> y.shifts(1, 7, 11));
        x.way(2);
        Seen.refused(x, "no days ahead of too many", -3, y -> y.shifts(1, 7, 51));
    }

    /** "ALIKE NEIGHBOURS of a TABLE are joined to one ROW, as long as there are some" */
    private static void joinsAlike() {
        for (int table = 0; table < 2; table++) {
            PeriodTables x = new PeriodTables();
            for (int i = 0; i < 20; i++) {
                x.adds(table, 6, 66, 5 * i, 5 * i + 5);
            }
            Due.is("20 to one", 19, x.joins(table));
            Due.table(x, "20 to one", table, 6, 66, 0, 100, 10);
            Due.is("undo()", 9, x.undo());
            Due.is("20 again", 20, x.count(table));
        }
    }

    /** "how many ROWS fewer": none, and it is done all the same. */
    private static void joinsNothing() {
        for (int table = 0; table < 2; table++) {
            PeriodTables x = new PeriodTables();
            Due.is("no ROWS", 0, x.joins(table));
            x.adds(table, 6, 66, 0, 100);
            Due.is("one ROW", 0, x.joins(table));
            Due.table(x, "one ROW", table, 6, 66, 0, 100, 10);
            Due.is("the other TABLE", 0, x.joins(1 - table));
            Due.is("each can be undone", 4, x.count(7));
        }
    }

    /** "two ROWS of a TABLE of one KEY, VALUE and REF, TO of one being FROM of the other" */
    private static void joinsNotAlike() {
        PeriodTables x = new PeriodTables();
        x.adds(1, 5, 1, 0, 100);
        x.adds(0, 1, 7, 0, 10);
        x.adds(0, 1, 8, 10, 20);
        x.adds(0, 1, 8, 21, 30);
        x.adds(0, 2, 8, 30, 40);
        x.adds(0, 2, 8, 40, 50);
        x.refers(2, 5, 40, 50);
        String ahead = Seen.rows(x);
        Due.is("VALUE, a day between, KEY, REF", 0, x.joins(0));
        Seen.same("nothing is joined", ahead, Seen.rows(x));
        x.refers(2, 5, 30, 40);
        Due.is("REF is the same now", 1, x.joins(0));
        Due.table(x, "behind joins()", 0, 1, 7, 0, 10, 10, 1, 8, 10, 20, 10, 1, 8, 21, 30, 10, 2, 8, 30, 50, 5);
        x.sets(1, 5, 2, 20, 30);
        x.sets(1, 5, 1, 20, 30);
        Due.is("beneath a REF", 2, x.joins(1));
        Due.table(x, "behind joins()", 1, 5, 1, 0, 100, 10);
    }

    /** The first day, the last day, and KEY, VALUE, FROM, REF all 0. */
    private static void joinsAtTheEdges() {
        PeriodTables x = new PeriodTables();
        x.adds(1, 0, 0, 0, 100);
        x.adds(0, 0, 0, 0, 1);
        x.adds(0, 0, 0, 1, 2);
        x.adds(0, 9, 99, 98, 99);
        x.adds(0, 9, 99, 99, 100);
        x.refers(0, 0, 0, 2);
        Due.is("rows()", 4, x.rows(0));
        Due.row(x, "rows()", 2, 4);
        Due.is("joins()", 2, x.joins(0));
        Due.table(x, "behind joins()", 0, 0, 0, 0, 2, 0, 9, 99, 98, 100, 10);
        Due.is("none more", 0, x.joins(0));
        Due.table(x, "behind joins()", 0, 0, 0, 0, 2, 0, 9, 99, 98, 100, 10);
        Due.is("rows()", 2, x.rows(0));
        Due.row(x, "rows()", 2, 4);
    }

    /** "NONE: none such." */
    private static void joinsRefused() {
        PeriodTables x = full();
        for (int bad : Wrong.TABLES) {
            Seen.refused(x, "no TABLE", -1, y -> y.joins(bad));
        }
    }

    /** "WAY becomes v (0 .. 2): 10 and what it was." */
    private static void wayBecomes() {
        for (int was = 0; was < 3; was++) {
            for (int v = 0; v < 3; v++) {
                if (v != was) {
                    PeriodTables x = new PeriodTables();
                    x.way(was);
                    Due.is("way() from " + was, 10 + was, x.way(v));
                    Due.is("WAY", v, x.count(2));
                }
            }
        }
    }

    /** "-2: it is so" */
    private static void wayIsSo() {
        for (int was = 0; was < 3; was++) {
            PeriodTables x = new PeriodTables();
            x.way(was);
            int v = was;
            Seen.refused(x, "it is so", -2, y -> y.way(v));
        }
    }

    /** "NONE: another v." */
    private static void wayRefused() {
        int[] others = {-1, 3, Integer.MIN_VALUE, Integer.MAX_VALUE};
        for (int bad : others) {
            Seen.refused(new PeriodTables(), "way(" + bad + ")", -1, y -> y.way(bad));
        }
    }

    /** An act behind an undo(), a way() or a refused call knows nothing of what is gone. */
    private static void behindUndo() {
        int[] rows = {3, 4, 4, 3, 2, 2, 3, 4, 3, 2, 2};
        for (int act = 0; act < rows.length; act++) {
            for (int table = 0; table < 2; table++) {
                PeriodTables x = referring();
                x.adds(table, 8, 1, 0, 10);
                x.undo();
                x.way(1);
                x.way(2);
                x.undo();
                doAct(x, act);
                Due.is("ROWS of both", rows[act], x.count(0) + x.count(1));
                Due.is("WAY", 1, x.count(2));
                Due.is("DAYS of KEY 8", -2, x.mean(table, 8));
            }
            PeriodTables x = referring();
            x.cuts(1, 7, 20, 30);
            x.way(1);
            doAct(x, act);
            Due.is("ROWS of both", rows[act], x.count(0) + x.count(1));
            Due.is("WAY", 1, x.count(2));
        }
    }

    private static void doAct(PeriodTables x, int act) {
        Seen.Call[] acts = {y -> y.adds(0, 3, 1, 0, 1), y -> y.sets(0, 2, 8, 20, 30), y -> y.refers(2, 10, 20, 30),
            y -> y.cuts(0, 2, 20, 30), y -> y.shifts(0, 2, -1), y -> y.joins(0), y -> y.adds(1, 3, 1, 0, 1),
            y -> y.sets(1, 7, 8, 20, 30), y -> y.cuts(1, 7, 41, 49), y -> y.shifts(1, 7, 1), y -> y.joins(1)};
        Due.is("act " + act + " is done", true, acts[act].on(x) >= 0);
    }
}
