/** Terms 1 and promises 1 to 5: each sentence that names an edge, by itself. */
public final class EdgesRowsTest {
    public static void main(String[] args) {
        firstAndLastPeriods();
        leastAndGreatestKeysAndValues();
        twentyRowsOfEach();
        numberedByKeyThenFrom();
        refOfTableOneIsTen();
        wayIsNoughtAtFirst();
        newObjectIsEmpty();
        eightySigns();
        signsRefusedChangeNothing();
        endOfTheText();
        endRefused();
        whatIsCutOffIsGone();
        noSuchEntry();
        lowestBitsWithTheirSign();
        putToValues();
        stepsThatWrap();
        behindTheSheet();
        sheetOfNoRows();
        sheetOfTwentyRows();
        missingSheet();
        sheetBelowNought();
        sheetRefusedFirst();
        sheetIsNotUndone();
        Due.finish("EdgesRowsTest");
    }

    /** "A PERIOD: FROM 0 .. 99 and TO, above FROM, at most 100" */
    private static void firstAndLastPeriods() {
        for (int table = 0; table < 2; table++) {
            PeriodTables x = new PeriodTables();
            Due.is("the first day", 0, x.adds(table, 0, 1, 0, 1));
            Due.is("the last day", 1, x.adds(table, 0, 1, 99, 100));
            Due.is("all days", 2, x.adds(table, 1, 1, 0, 100));
            Due.table(x, "at the edges", table, 0, 1, 0, 1, 10, 0, 1, 99, 100, 10, 1, 1, 0, 100, 10);
            for (int[] bad : Wrong.PERIODS) {
                int from = bad[0];
                int to = bad[1];
                Seen.refused(x, "adds() of " + from + " .. " + to, -1, y -> y.adds(0, 5, 1, from, to));
            }
        }
    }

    /** "KEY 0 .. 9, VALUE 0 .. 99" */
    private static void leastAndGreatestKeysAndValues() {
        for (int table = 0; table < 2; table++) {
            int t = table;
            PeriodTables x = new PeriodTables();
            Due.is("KEY 9, VALUE 99", 0, x.adds(table, 9, 99, 10, 20));
            Due.is("KEY 0, VALUE 0", 0, x.adds(table, 0, 0, 10, 20));
            Due.table(x, "of these", table, 0, 0, 10, 20, 10, 9, 99, 10, 20, 10);
            for (int bad : Wrong.KEYS) {
                Seen.refused(x, "adds() of KEY " + bad, -1, y -> y.adds(t, bad, 0, 50, 60));
            }
            for (int bad : Wrong.VALUES) {
                Seen.refused(x, "adds() of VALUE " + bad, -1, y -> y.adds(t, 5, bad, 50, 60));
            }
        }
    }

    /** "TABLES 0 and 1 of at most 20 ROWS each" */
    private static void twentyRowsOfEach() {
        PeriodTables x = new PeriodTables();
        for (int table = 0; table < 2; table++) {
            for (int i = 0; i < 20; i++) {
                Due.is("ROW " + i, i, x.adds(table, i / 2, i, i % 2, i % 2 + 1));
            }
            int t = table;
            Due.is("20", 20, x.count(table));
            Seen.refused(x, "the 21st, in between", -9, y -> y.adds(t, 0, 1, 10, 20));
            Seen.refused(x, "the 21st, behind all", -9, y -> y.adds(t, 9, 1, 2, 3));
        }
        for (int bad : Wrong.TABLES) {
            Seen.refused(x, "no TABLE", -1, y -> y.adds(bad, 0, 0, 50, 60));
        }
    }

    /** "ROWS of a TABLE are numbered 0, 1, .. by KEY, of one KEY by FROM." */
    private static void numberedByKeyThenFrom() {
        PeriodTables x = new PeriodTables();
        Due.is("KEY 5", 0, x.adds(0, 5, 1, 50, 60));
        Due.is("a lower KEY, later", 0, x.adds(0, 4, 2, 90, 100));
        Due.is("a higher KEY, earlier", 2, x.adds(0, 6, 3, 0, 10));
        Due.is("the KEY, ahead of it", 1, x.adds(0, 5, 4, 49, 50));
        Due.is("the KEY, behind it", 3, x.adds(0, 5, 5, 60, 61));
        Due.table(x, "by KEY, then FROM", 0, 4, 2, 90, 100, 10, 5, 4, 49, 50, 10, 5, 1, 50, 60, 10, 5, 5, 60, 61, 10,
                6, 3, 0, 10, 10);
    }

    /** "REF: .. (in TABLE 1 always 10)" */
    private static void refOfTableOneIsTen() {
        PeriodTables x = new PeriodTables();
        x.adds(0, 5, 1, 0, 100);
        x.adds(1, 5, 1, 0, 100);
        Due.is("refers() is of TABLE 0 alone", 1, x.refers(5, 5, 0, 50));
        x.sets(1, 5, 2, 10, 20);
        x.way(2);
        x.cuts(1, 5, 30, 40);
        x.shifts(1, 5, 0);
        x.joins(1);
        for (int i = 0; i < x.count(1); i++) {
            Due.is("REF of ROW " + i + " of TABLE 1", 10, x.entry(1, i, 4));
        }
        Due.is("ROWS of TABLE 1", 4, x.count(1));
        x = new PeriodTables();
        x.adds(1, 5, 1, 0, 100);
        Seen.refused(x, "a KEY of TABLE 1 alone refers to none", -2, y -> y.refers(5, 5, 0, 50));
    }

    /** "WAY 0, 1, 2 (at first 0)" */
    private static void wayIsNoughtAtFirst() {
        PeriodTables x = new PeriodTables();
        Due.is("WAY", 0, x.count(2));
        Seen.refused(x, "it is so", -2, y -> y.way(0));
    }

    /** "Both TABLES are empty." */
    private static void newObjectIsEmpty() {
        for (int table = 0; table < 2; table++) {
            PeriodTables x = new PeriodTables();
            Due.is("rows()", 0, x.rows(table));
            Due.row(x, "rows()", 0, 0);
            Due.is("slice()", 0, x.slice(table, 0));
            Due.noEntry(x, table, 0, 0);
            for (int what = 0; what < 10; what++) {
                Due.is("count(" + what + ")", 0, x.count(what));
            }
        }
    }

    private static int signs(String four) {
        return four.charAt(0) << 24 | four.charAt(1) << 16 | four.charAt(2) << 8 | four.charAt(3);
    }

    /** "Refused: there would be more than 80." */
    private static void eightySigns() {
        for (int size = 77; size <= 80; size++) {
            PeriodTables x = new PeriodTables();
            for (int i = 0; i < 20; i++) {
                Due.is("signs", 4 * i + 4, x.sign(-1));
            }
            Due.is("cut off", true, x.end(size));
            Seen.refused(x, "four more than " + size, -1, y -> y.sign(0));
        }
        PeriodTables x = new PeriodTables();
        for (int i = 0; i < 20; i++) {
            x.sign(-1);
        }
        x.end(76);
        Due.is("four more than 76", 80, x.sign(0));
        x.end(75);
        Due.is("four more than 75", 79, x.sign(0));
    }

    /** "Refused calls .. change nothing": the text is still what it was. */
    private static void signsRefusedChangeNothing() {
        PeriodTables x = new PeriodTables();
        for (int i = 0; i < 20; i++) {
            x.sign(signs("w1w0"));
        }
        Due.is("the 81st to 84th", -1, x.sign(signs("zzzz")));
        Due.is("40 acts", 40, x.work());
        Due.is("none are left", 0, x.count(9));
        Due.is("the first four again", 4, x.sign(signs("w1w0")));
    }

    /** "THE TEXT has its first n signs alone: true" */
    private static void endOfTheText() {
        PeriodTables x = new PeriodTables();
        Due.is("0 of 0", true, x.end(0));
        x.sign(signs("w1w2"));
        Due.is("4 of 4", true, x.end(4));
        Due.is("4 signs", 4, x.count(9));
        Due.is("2 of 4", true, x.end(2));
        Due.is("behind them", 6, x.sign(signs("j0j1")));
        Due.is("w1, j0, j1", 3, x.work());
        Due.is("w2 is gone", 1, x.count(2));
        x.sign(signs("w0w2"));
        Due.is("0 of 4", true, x.end(0));
        Due.is("an empty one", 0, x.work());
        Due.is("WAY", 1, x.count(2));
    }

    /** "false if it has not so many, or n is below 0" */
    private static void endRefused() {
        PeriodTables x = new PeriodTables();
        Seen.refused(x, "1 of 0", 0, y -> y.end(1) ? 1 : 0);
        x.sign(signs("w1w2"));
        int[] others = {5, 80, 81, Integer.MAX_VALUE, -1, Integer.MIN_VALUE};
        for (int bad : others) {
            Seen.refused(x, "end(" + bad + ") of 4", 0, y -> y.end(bad) ? 1 : 0);
        }
        Due.is("all four are there", 2, x.work());
    }

    /** What end() cut off, or a call emptied, is not read behind the end. */
    private static void whatIsCutOffIsGone() {
        PeriodTables x = new PeriodTables();
        x.sign(signs("w1w2"));
        x.end(3);
        Due.is("it ends too early", -4, x.work());
        x.sign(signs("j0j0"));
        x.end(1);
        Due.is("it ends too early", -2, x.work());
        x.sign(signs("k+kk"));
        x.end(2);
        Due.is("it ends too early", -1002, x.where(0));
        x.sign(signs("(kk)"));
        x.end(2);
        Due.is("it ends too early", -1002, x.where(0));
        x.sign(signs("12kk"));
        x.end(0);
        Due.is("it ends too early", -1000, x.where(0));
    }

    /** "NoSuchElementException: none such, another what." */
    private static void noSuchEntry() {
        PeriodTables x = new PeriodTables();
        for (int table = -1; table < 3; table++) {
            for (int what = -1; what < 6; what++) {
                Due.noEntry(x, table, 0, what);
            }
        }
        x.adds(0, 3, 7, 10, 20);
        x.adds(0, 4, 7, 10, 20);
        x.adds(1, 3, 7, 10, 20);
        Due.is("the last ROW", 4, x.entry(0, 1, 0));
        int[] numbers = {-1, 2, 19, 20, 23, 24, Integer.MIN_VALUE, Integer.MAX_VALUE};
        for (int bad : numbers) {
            Due.noEntry(x, 0, bad, 0);
        }
        Due.noEntry(x, 1, 1, 0);
        for (int bad : Wrong.TABLES) {
            Due.noEntry(x, bad, 0, 0);
        }
        int[] others = {-1, 5, Integer.MIN_VALUE, Integer.MAX_VALUE};
        for (int bad : others) {
            Due.noEntry(x, 0, 1, bad);
            Due.noEntry(x, 0, 0, bad);
        }
        x.cuts(0, 4, 0, 100);
        Due.noEntry(x, 0, 1, 0);
    }

    private static PeriodTables oneRow() {
        PeriodTables x = new PeriodTables();
        x.adds(0, 4, 44, 5, 15);
        return x;
    }

    private static void told(int kind, int number, int want) {
        PeriodTables x = oneRow();
        Due.is("sheet of kind " + kind + " of " + number, want, x.sheet(kind, 1, number, 0));
        Due.table(x, "of kind " + kind + " of " + number, 0, 4, want, 5, 15, 10);
    }

    /** "of bytes, shorts the lowest bits, with their sign" */
    private static void lowestBitsWithTheirSign() {
        told(0, 127, 99);
        told(0, 128, 0);
        told(0, 255, 0);
        told(0, 256, 0);
        told(0, 257, 1);
        told(0, 256 + 98, 98);
        told(0, -128, 0);
        told(0, -129, 99);
        told(0, -256 + 42, 42);
        told(0, Integer.MIN_VALUE, 0);
        told(0, Integer.MAX_VALUE, 0);
        told(1, 128, 99);
        told(1, 32767, 99);
        told(1, 32768, 0);
        told(1, 65535, 0);
        told(1, 65536, 0);
        told(1, 65536 + 42, 42);
        told(1, -32768, 0);
        told(1, -32769, 99);
        told(1, -65536 + 42, 42);
        told(1, Integer.MAX_VALUE, 0);
        told(2, 32768, 99);
        told(2, 65536 + 42, 99);
        told(2, -65536 + 42, 0);
        told(2, Integer.MAX_VALUE, 99);
        told(2, Integer.MIN_VALUE, 0);
    }

    /** "put to 0 .. 99" */
    private static void putToValues() {
        for (int kind = 0; kind < 3; kind++) {
            told(kind, -1, 0);
            told(kind, 0, 0);
            told(kind, 1, 1);
            told(kind, 98, 98);
            told(kind, 99, 99);
            told(kind, 100, 99);
            told(kind, 101, 99);
        }
    }

    private static void values(PeriodTables x, String when, int... want) {
        for (int i = 0; i < want.length; i++) {
            Due.is("VALUE of ROW " + i + " " + when, want[i], x.entry(0, i, 1));
        }
    }

    private static PeriodTables rows(int many) {
        PeriodTables x = new PeriodTables();
        for (int i = 0; i < many; i++) {
            x.adds(0, i / 2, 50, i % 2 * 10, i % 2 * 10 + 10);
        }
        return x;
    }

    /** "n entries f, f + step, ..": ints that wrap around. */
    private static void stepsThatWrap() {
        PeriodTables x = rows(4);
        Due.is("behind MAX", 99, x.sheet(2, 4, Integer.MAX_VALUE, 1));
        values(x, "behind MAX", 99, 0, 0, 0);
        Due.is("ahead of MIN", 3 * 99, x.sheet(2, 4, Integer.MIN_VALUE, -1));
        values(x, "ahead of MIN", 0, 99, 99, 99);
        Due.is("steps of MIN", 7 + 7, x.sheet(2, 4, 7, Integer.MIN_VALUE));
        values(x, "steps of MIN", 7, 0, 7, 0);
        Due.is("bytes, steps of MAX", 9 + 8 + 7 + 6, x.sheet(0, 4, 9, Integer.MAX_VALUE));
        values(x, "bytes, steps of MAX", 9, 8, 7, 6);
    }

    /** "those behind it have 0: the sum of all" */
    private static void behindTheSheet() {
        PeriodTables x = rows(4);
        Due.is("3 entries of 4", 11 + 12 + 13, x.sheet(0, 3, 11, 1));
        values(x, "of 3 entries", 11, 12, 13, 0);
        Due.is("4 entries of 4", 21 + 22 + 23 + 24, x.sheet(1, 4, 21, 1));
        values(x, "of 4 entries", 21, 22, 23, 24);
        Due.is("5 entries of 4", 31 + 32 + 33 + 34, x.sheet(2, 5, 31, 1));
        values(x, "of 5 entries", 31, 32, 33, 34);
        Due.is("1 entry", 41, x.sheet(2, 1, 41, 1));
        values(x, "of 1 entry", 41, 0, 0, 0);
        Due.is("no entries", 0, x.sheet(2, 0, 41, 1));
        values(x, "of no entries", 0, 0, 0, 0);
        Due.is("KEYS and PERIODS are as they were", 40, x.count(3));
    }

    private static void sheetOfNoRows() {
        PeriodTables x = new PeriodTables();
        x.adds(1, 3, 33, 0, 10);
        Due.is("no ROWS", 0, x.sheet(2, 20, 5, 5));
        Due.is("no ROWS, missing", -3, x.sheet(3, 0, 0, 0));
        Due.table(x, "is left alone", 1, 3, 33, 0, 10, 10);
    }

    private static void sheetOfTwentyRows() {
        PeriodTables x = rows(20);
        Due.is("20 of 20", 20 * 21 / 2, x.sheet(0, 20, 1, 1));
        Due.is("the last", 20, x.entry(0, 19, 1));
        Due.is("19 of 20", 19 * 20 / 2, x.sheet(0, 19, 1, 1));
        Due.is("the last", 0, x.entry(0, 19, 1));
    }

    /** "-3: missing (all 0)" */
    private static void missingSheet() {
        int[] numbers = {0, 1, 20, -1, Integer.MIN_VALUE};
        for (int n : numbers) {
            PeriodTables x = rows(3);
            x.rows(0);
            Due.is("missing, n " + n, -3, x.sheet(3, n, 7, 7));
            values(x, "of a missing one", 0, 0, 0);
            Due.row(x, "the ROW stays", 2, 30);
        }
    }

    /** "-2: n below 0 (of kinds 0 .. 2; nothing changes)" */
    private static void sheetBelowNought() {
        PeriodTables x = rows(3);
        x.rows(0);
        for (int kind = 0; kind < 3; kind++) {
            int k = kind;
            Seen.refused(x, "n -1", -2, y -> y.sheet(k, -1, 7, 7));
            Seen.refused(x, "n MIN", -2, y -> y.sheet(k, Integer.MIN_VALUE, 7, 7));
        }
    }

    /** "NONE: another kind, n above 20 (these first)" */
    private static void sheetRefusedFirst() {
        PeriodTables x = rows(3);
        x.rows(0);
        int[] kinds = {-1, 4, Integer.MIN_VALUE, Integer.MAX_VALUE};
        for (int bad : kinds) {
            Seen.refused(x, "kind " + bad, -1, y -> y.sheet(bad, 3, 7, 7));
            Seen.refused(x, "kind " + bad + " ahead of n below 0", -1, y -> y.sheet(bad, -1, 7, 7));
        }
        for (int kind = 0; kind < 4; kind++) {
            int k = kind;
            Seen.refused(x, "n 21", -1, y -> y.sheet(k, 21, 7, 7));
            Seen.refused(x, "n MAX", -1, y -> y.sheet(k, Integer.MAX_VALUE, 7, 7));
        }
    }

    /** "Nothing is kept of it that could be undone (an undo() behind it brings VALUES back, too, ..)" */
    private static void sheetIsNotUndone() {
        PeriodTables x = rows(2);
        x.again(0);
        x.keep(0);
        x.again(0);
        x.sheet(0, 2, 1, 1);
        Seen.refused(x, "nothing to undo", -1, y -> y.undo());
        values(x, "of the sheet", 1, 2);
        x.way(1);
        x.sheet(0, 2, 3, 1);
        Due.is("undo() of way()", 0, x.undo());
        values(x, "as ahead of way()", 1, 2);
        x.joins(0);
        x.sheet(3, 0, 0, 0);
        Due.is("undo() of joins()", 0, x.undo());
        values(x, "as ahead of joins()", 1, 2);
    }
}
