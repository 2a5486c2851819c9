/** Promises 1 to 5: a new object, sign, end, entry, sheet. */
public final class RowsTest {
    public static void main(String[] args) {
        newObject();
        sign();
        end();
        entry();
        sheetKinds();
        sheetRefused();
        sheetAndUndo();
        Due.finish("RowsTest");
    }

    private static void newObject() {
        PeriodTables x = new PeriodTables();
        for (int what = 0; what < 10; what++) {
            Due.is("count(" + what + ") of a new object", 0, x.count(what));
        }
        Due.row(x, "a new object");
        Due.is("slice of an empty table", 0, x.slice(0, 99));
        Due.is("undo() of a new object", -1, x.undo());
        Due.is("again(0) of a new object", false, x.again(0));
    }

    private static void sign() {
        PeriodTables x = new PeriodTables();
        for (int i = 1; i <= 20; i++) {
            Due.is("sign " + i, 4 * i, x.sign(0x80FF0041));
        }
        Due.is("sign beyond 80", -1, x.sign(0));
        Due.is("signs", 80, x.count(9));
        Due.is("end(79)", true, x.end(79));
        Due.is("sign to 83", -1, x.sign(0));
        Due.is("end(76)", true, x.end(76));
        Due.is("sign to 80", 80, x.sign(0));
        signsByBytes();
    }

    /** The highest byte comes first: w1j0 is two acts, and no other order of these is. */
    private static void signsByBytes() {
        PeriodTables x = new PeriodTables();
        x.sign('w' << 24 | '1' << 16 | 'j' << 8 | '0');
        Due.is("w1j0", 2, x.work());
        x.sign('w' << 24 | '2' << 16 | 'j' << 8 | 200);
        Due.is("a sign above 127 can't stand", -4, x.work());
    }

    private static void end() {
        PeriodTables x = new PeriodTables();
        Due.is("end(0) of no signs", true, x.end(0));
        Due.is("end(1) of no signs", false, x.end(1));
        x.sign('w' << 24 | '1' << 16 | 'w' << 8 | '2');
        Due.is("end(5) of 4", false, x.end(5));
        Due.is("end(-1)", false, x.end(-1));
        Due.is("end(MIN)", false, x.end(Integer.MIN_VALUE));
        Due.is("still 4", 4, x.count(9));
        Due.is("end(4) of 4", true, x.end(4));
        Due.is("end(2) of 4", true, x.end(2));
        Due.is("end(3) of 2", false, x.end(3));
        Due.is("2 signs", 2, x.count(9));
        Due.is("the first 2 alone", 1, x.work());
        Due.is("w1 was done", 1, x.count(2));
    }

    private static void entry() {
        PeriodTables x = new PeriodTables();
        x.adds(1, 4, 44, 10, 100);
        x.adds(0, 9, 99, 0, 1);
        x.adds(0, 2, 7, 20, 30);
        x.adds(0, 2, 6, 5, 10);
        x.refers(2, 4, 20, 30);
        Due.table(x, "by KEY, then FROM", 0, 2, 6, 5, 10, 10, 2, 7, 20, 30, 4, 9, 99, 0, 1, 10);
        Due.table(x, "of table 1", 1, 4, 44, 10, 100, 10);
        Due.noEntry(x, 0, 3, 0);
        Due.noEntry(x, 0, -1, 0);
        Due.noEntry(x, 1, 1, 0);
        Due.noEntry(x, 2, 0, 0);
        Due.noEntry(x, -1, 0, 0);
        Due.noEntry(x, 0, 0, 5);
        Due.noEntry(x, 0, 0, -1);
        Due.noEntry(x, 0, Integer.MAX_VALUE, 0);
        Due.noEntry(x, 0, Integer.MIN_VALUE, Integer.MAX_VALUE);
    }

    private static PeriodTables fourRows() {
        PeriodTables x = new PeriodTables();
        for (int key = 0; key < 4; key++) {
            x.adds(0, key, 50 + key, 0, 10);
        }
        x.adds(1, 0, 77, 0, 10);
        return x;
    }

    private static void values(PeriodTables x, String when, int... want) {
        for (int i = 0; i < want.length; i++) {
            Due.is("VALUE of ROW " + i + " " + when, want[i], x.entry(0, i, 1));
        }
    }

    private static void sheetKinds() {
        PeriodTables x = fourRows();
        Due.is("bytes", 3 + 13 + 23, x.sheet(0, 3, 3, 10));
        values(x, "of bytes", 3, 13, 23, 0);
        Due.is("bytes with their sign", 44 + 88, x.sheet(0, 4, 300, 100));
        values(x, "of 300 (44), 400 (-112), 500 (-12), 600 (88)", 44, 0, 0, 88);
        Due.is("shorts", 99 + 0 + 0 + 2, x.sheet(1, 4, 32767, 32769 + 65536 * 3));
        values(x, "of 32767, 65536 (0), 32769 (-32767), 65538 (2)", 99, 0, 0, 2);
        Due.is("ints", 4 * 99, x.sheet(2, 4, 65536, 65536));
        Due.is("more entries than ROWS", 10 + 9 + 8 + 7, x.sheet(2, 20, 10, -1));
        values(x, "of 20 entries", 10, 9, 8, 7);
        Due.is("no entries", 0, x.sheet(2, 0, 10, 10));
        values(x, "of no entries", 0, 0, 0, 0);
        Due.is("entries that wrap", 99 + 0 + 0 + 0, x.sheet(2, 4, Integer.MAX_VALUE, 1));
        Due.is("missing", -3, x.sheet(3, 20, 5, 5));
        values(x, "of a missing one", 0, 0, 0, 0);
        Due.is("TABLE 1 is left alone", 77, x.entry(1, 0, 1));
        Due.is("99 is 99 and 100 is 99", 99 + 99 + 98 + 97, x.sheet(2, 4, 100, -1));
        Due.row(x, "sheet() tells none");
    }

    private static void sheetRefused() {
        PeriodTables x = fourRows();
        Due.is("kind 4", -1, x.sheet(4, 1, 1, 1));
        Due.is("kind -1", -1, x.sheet(-1, -1, 1, 1));
        Due.is("n 21", -1, x.sheet(0, 21, 1, 1));
        Due.is("n 21, missing", -1, x.sheet(3, 21, 1, 1));
        Due.is("n below 0", -2, x.sheet(0, -1, 1, 1));
        Due.is("n below 0", -2, x.sheet(2, Integer.MIN_VALUE, 1, 1));
        values(x, "behind what was refused", 50, 51, 52, 53);
        Due.is("n below 0, missing", -3, x.sheet(3, -1, 1, 1));
        values(x, "behind a missing one", 0, 0, 0, 0);
    }

    private static void sheetAndUndo() {
        PeriodTables x = fourRows();
        Due.is("can be undone", 5, x.count(7));
        x.sheet(0, 4, 1, 1);
        Due.is("a sheet can't be undone", 5, x.count(7));
        x.cuts(0, 3, 0, 10);
        x.sheet(0, 3, 30, 1);
        Due.is("undo()", 5, x.undo());
        values(x, "as ahead of the cut", 1, 2, 3, 4);
        Due.is("undo()", 4, x.undo());
        values(x, "as ahead of the last adds()", 50, 51, 52, 53);
    }
}
