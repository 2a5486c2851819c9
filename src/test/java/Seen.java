/** All that can be seen of an object without a change of it, as a text. */
final class Seen {
    private Seen() {
    }

    /** A call whose answer is looked at; what throws is not for it. */
    interface Call {
        long on(PeriodTables x);
    }

    static String all(PeriodTables x) {
        StringBuilder seen = new StringBuilder(butTheRow(x)).append(" the ROW:");
        for (int i = 0; i < x.count(8); i++) {
            seen.append(' ').append(x.row(i));
        }
        return seen.toString();
    }

    static String butTheRow(PeriodTables x) {
        StringBuilder seen = new StringBuilder(rows(x));
        for (int what = 2; what < 10; what++) {
            seen.append(what == 8 ? "" : ", " + x.count(what));
        }
        return seen.toString();
    }

    static String rows(PeriodTables x) {
        StringBuilder seen = new StringBuilder();
        for (int table = 0; table < 2; table++) {
            for (int i = 0; i < x.count(table); i++) {
                seen.append(" (");
                for (int what = 0; what < 5; what++) {
                    seen.append(what == 0 ? "" : " ").append(x.entry(table, i, what));
                }
                seen.append(')');
            }
            seen.append(" | ");
        }
        return seen.toString();
    }

    /** The call answers this, and all stays as it is, the ROW too. */
    static void refused(PeriodTables x, String call, long want, Call asked) {
        String ahead = all(x);
        Due.is(call, want, asked.on(x));
        same(call + " changes nothing", ahead, all(x));
    }

    static void same(String what, String want, String got) {
        boolean same = want.equals(got);
        Due.is(same ? what : what + ": " + want + " became " + got + ":", true, same);
    }
}
