import java.util.NoSuchElementException;

/** Compares answers with those that are due, and ends a test. */
final class Due {
    private static int asked = 0;
    private static int wrong = 0;

    private Due() {
    }

    static void is(String call, long want, long got) {
        asked++;
        if (got != want) {
            wrong++;
            System.out.println(call + " answered " + got + ", due is " + want);
        }
    }

    static void is(String call, boolean want, boolean got) {
        is(call, want ? 1 : 0, got ? 1 : 0);
    }

    /** The whole ROW, its length too, and that nothing stands ahead of it or behind it. */
    static void row(PeriodTables x, String call, long... want) {
        is("numbers of the ROW behind " + call, want.length, x.count(8));
        for (int i = 0; i < want.length && i < x.count(8); i++) {
            is("row(" + i + ") behind " + call, want[i], x.row(i));
        }
        noRow(x, call, -1);
        noRow(x, call, want.length);
        noRow(x, call, Integer.MAX_VALUE);
        noRow(x, call, Integer.MIN_VALUE);
    }

    private static void noRow(PeriodTables x, String call, int i) {
        boolean thrown = false;
        try {
            x.row(i);
        } catch (NoSuchElementException e) {
            thrown = true;
        }
        is("row(" + i + ") behind " + call + " throws", true, thrown);
    }

    static void noEntry(PeriodTables x, int table, int i, int what) {
        boolean thrown = false;
        try {
            x.entry(table, i, what);
        } catch (NoSuchElementException e) {
            thrown = true;
        }
        is("entry(" + table + ", " + i + ", " + what + ") throws", true, thrown);
    }

    /** All rows of a table: KEY, VALUE, FROM, TO, REF of each, one behind another. */
    static void table(PeriodTables x, String when, int table, int... want) {
        is("rows of table " + table + " " + when, want.length / 5, x.count(table));
        for (int k = 0; k < want.length && k / 5 < x.count(table); k++) {
            is("entry(" + table + ", " + k / 5 + ", " + k % 5 + ") " + when, want[k], x.entry(table, k / 5, k % 5));
        }
    }

    /** THE TEXT becomes a text. */
    static void text(PeriodTables x, String text) {
        x.end(0);
        for (int i = 0; i < text.length(); i += 4) {
            int v = 0;
            for (int k = i; k < i + 4; k++) {
                v = v << 8 | (k < text.length() ? text.charAt(k) : ' ');
            }
            x.sign(v);
        }
        is("end(" + text.length() + ")", true, x.end(text.length()));
    }

    static void finish(String name) {
        System.out.println(name + ": " + asked + " answers, " + wrong + " not as due");
        if (wrong != 0) {
            System.exit(1);
        }
    }
}
