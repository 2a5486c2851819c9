/** Promises 13 and 14: each sentence that names an edge, by itself. */
public final class EdgesWorkTest {
    public static void main(String[] args) {
        emptyText();
        hundredAsTo();
        digitsAtTheEdges();
        eachActAsItsCall();
        eachRefusalEnds();
        firstAndLastRefused();
        signsThatCantStand();
        endsTooEarly();
        nothingIsDoneOfAFault();
        eightySigns();
        undoOfNone();
        undoOfEachCall();
        undoOfWay();
        tenAreKept();
        ringGoesRound();
        refusedBehindTen();
        workIsOne();
        againForgets();
        Due.finish("EdgesWorkTest");
    }

    private static int work(PeriodTables x, String text) {
        Due.text(x, text);
        return x.work();
    }

    /** "(an empty one: nothing)" */
    private static void emptyText() {
        PeriodTables x = new PeriodTables();
        Due.is("an empty one", 0, x.work());
        Due.row(x, "an empty one", 0, 0);
        x.adds(0, 1, 1, 0, 1);
        x.adds(1, 1, 1, 0, 1);
        Due.is("an empty one", 0, x.work());
        Due.row(x, "an empty one", 0, 2);
        Due.is("it can't be undone", 2, x.count(7));
        x.sign(0);
        x.end(0);
        Due.is("one that was cut off", 0, x.work());
    }

    /** "00 as TO, here and behind: 100" */
    private static void hundredAsTo() {
        PeriodTables x = new PeriodTables();
        Due.is("a of TABLE 1", 1, work(x, "a15070000"));
        Due.table(x, "all days", 1, 5, 7, 0, 100, 10);
        Due.is("a", 1, work(x, "a00009900"));
        Due.table(x, "the last day", 0, 0, 0, 99, 100, 10);
        Due.is("a", 1, work(x, "a00010099"));
        Due.is("s", 1, work(x, "s00025000"));
        Due.row(x, "s", 0, 4);
        Due.table(x, "to 100", 0, 0, 1, 0, 50, 10, 0, 2, 50, 99, 10, 0, 2, 99, 100, 10);
        Due.is("r", 1, work(x, "r0059900"));
        Due.is("REF", 5, x.entry(0, 2, 4));
        Due.is("r", 1, work(x, "r0050000"));
        Due.is("REF", 5, x.entry(0, 0, 4));
        Due.is("c", 1, work(x, "c009900"));
        Due.table(x, "to 99", 0, 0, 1, 0, 50, 5, 0, 2, 50, 99, 5);
        Due.is("c", 1, work(x, "c000000"));
        Due.row(x, "c", 0, 1);
    }

    private static void digitsAtTheEdges() {
        PeriodTables x = new PeriodTables();
        Due.is("a, all 9", 1, work(x, "a19999899"));
        Due.table(x, "KEY 9, VALUE 99, 98 to 99", 1, 9, 99, 98, 99, 10);
        Due.is("a, all 0", 1, work(x, "a00000001"));
        Due.table(x, "all 0", 0, 0, 0, 0, 1, 10);
        Due.is("99 to 99 is no PERIOD", 0, work(x, "a09999999"));
        Due.is("s, all 9", 0, work(x, "s19999999"));
        Due.is("r of REF 00", 0, work(x, "r0000001"));
        Due.is("r of REF 10", 1, work(x, "r0100001"));
        Due.is("r of REF 11", 0, work(x, "r0110001"));
        Due.is("r of REF 99", 0, work(x, "r9999999"));
        Due.is("c of 99 to 100", 0, work(x, "c099900"));
        Due.is("c of 98 to 100", 1, work(x, "c199800"));
        Due.is("w2, w0, w1", 3, work(x, "w2w0w1"));
        Due.is("j0, j1", 2, work(x, "j0j1"));
    }

    /** Each act as its call does it: two objects, the calls on one, the texts on the other. */
    private static void eachActAsItsCall() {
        PeriodTables x = new PeriodTables();
        PeriodTables y = new PeriodTables();
        act(x, y, "a17420060", y.adds(1, 7, 42, 0, 60));
        act(x, y, "a17436000", y.adds(1, 7, 43, 60, 100));
        act(x, y, "a03110530", y.adds(0, 3, 11, 5, 30));
        act(x, y, "s03121015", y.sets(0, 3, 12, 10, 15));
        act(x, y, "r3070820", y.refers(3, 7, 8, 20));
        act(x, y, "c030607", y.cuts(0, 3, 6, 7));
        act(x, y, "s03111015", y.sets(0, 3, 11, 10, 15));
        act(x, y, "j0", y.joins(0));
        act(x, y, "s17425599", y.sets(1, 7, 42, 55, 99));
        act(x, y, "j1", y.joins(1));
        act(x, y, "c170910", y.cuts(1, 7, 9, 10));
        act(x, y, "w1", y.way(1));
        act(x, y, "c170910", y.cuts(1, 7, 9, 10));
        act(x, y, "w2", y.way(2));
        act(x, y, "c171112", y.cuts(1, 7, 11, 12));
        act(x, y, "w0", y.way(0));
    }

    private static void act(PeriodTables x, PeriodTables y, String text, int answer) {
        Due.is("work() of " + text, answer < 0 ? 0 : 1, work(x, text));
        Due.row(x, "work() of " + text, answer < 0 ? 1 : 0, y.count(0) + y.count(1));
        Seen.same("as the call of " + text, Seen.butTheRow(y), Seen.butTheRow(x));
    }

    private static PeriodTables some() {
        PeriodTables x = new PeriodTables();
        x.adds(1, 7, 1, 0, 50);
        x.adds(0, 2, 9, 10, 40);
        x.refers(2, 7, 10, 40);
        return x;
    }

    private static void refusal(PeriodTables x, String text) {
        Due.is("work() of w1" + text + "w2", 1, work(x, "w1" + text + "w2"));
        Due.row(x, "work() of " + text, 1, x.count(0) + x.count(1));
        Due.is("what stands behind is not done", 1, x.count(2));
        x.undo();
    }

    /** "till one is refused (it answers below 0)": NONE, -2, -3, -9 of each. */
    private static void eachRefusalEnds() {
        PeriodTables x = some();
        refusal(x, "a02113020");
        refusal(x, "a02113940");
        refusal(x, "s02115040");
        refusal(x, "s02114050");
        refusal(x, "r2110010");
        refusal(x, "r2074050");
        refusal(x, "r2080050");
        refusal(x, "c024020");
        refusal(x, "c024050");
        refusal(x, "w1");
        Due.is("-3 of cuts()", 0, work(x, "c171011w2"));
        Due.row(x, "-3 of cuts()", 1, 2);
        Due.is("WAY", 0, x.count(2));
        for (int i = 0; i < 19; i++) {
            x.adds(0, 3, i, 2 * i, 2 * i + 1);
        }
        refusal(x, "a03119900");
        refusal(x, "s02111112");
        refusal(x, "r2102021");
        refusal(x, "c022021");
    }

    /** "how many were done; the ROW: 1 if one was refused, else 0" */
    private static void firstAndLastRefused() {
        PeriodTables x = some();
        Due.is("the first", 0, work(x, "w0w1w2"));
        Due.row(x, "the first", 1, 2);
        Due.is("nothing to undo of it", 3, x.count(7));
        Due.is("the last", 3, work(x, "w1w2w1w1"));
        Due.row(x, "the last", 1, 2);
        Due.is("none", 2, work(x, "w2w1"));
        Due.row(x, "none", 0, 2);
        Due.is("the only one", 0, work(x, "w1"));
        Due.row(x, "the only one", 1, 2);
    }

    private static void fault(String text, int p) {
        PeriodTables x = some();
        x.longest(1);
        Due.text(x, text);
        String ahead = Seen.all(x).replaceAll(", \\d+ the ROW", " the ROW");
        Due.is("work() of " + text, -1 - p, x.work());
        Seen.same("nothing is done", ahead, Seen.all(x).replaceAll(", \\d+ the ROW", " the ROW"));
        Due.is("THE TEXT is empty", 0, x.count(9));
    }

    /** "-1 - p: the sign at p can't stand there" */
    private static void signsThatCantStand() {
        String acts = "asrcjw";
        for (char sign = 0; sign < 256; sign++) {
            if (acts.indexOf(sign) < 0) {
                fault("" + sign, 0);
                fault("w1" + sign + "1", 2);
            }
            if (sign < '0' || sign > '1') {
                fault("a" + sign + "1112030", 1);
                fault("s" + sign + "1112030", 1);
                fault("c" + sign + "12030", 1);
                fault("j" + sign, 1);
            }
            if (sign < '0' || sign > '2') {
                fault("w" + sign, 1);
            }
            if (sign < '0' || sign > '9') {
                fault("a01" + sign + "12030", 3);
                fault("s011120" + sign + "0", 7);
                fault("r" + sign + "072030", 1);
                fault("c01203" + sign, 6);
            }
        }
    }

    /** "(its end, if it ends too early)" */
    private static void endsTooEarly() {
        String[] acts = {"a01112030", "s11112030", "r1072030", "c012030", "j0", "w2"};
        for (String act : acts) {
            for (int end = 1; end < act.length(); end++) {
                fault(act.substring(0, end), end);
                fault("j1" + act.substring(0, end), 2 + end);
            }
        }
    }

    /** "nothing is done then" */
    private static void nothingIsDoneOfAFault() {
        fault("w1w2w0x", 6);
        fault("a03110001a03110102a0", 20);
        fault("c020000j0j2", 10);
    }

    /** Eighty signs: forty acts, or a fault at the very end. */
    private static void eightySigns() {
        PeriodTables x = new PeriodTables();
        Due.is("forty acts", 40, work(x, "w1w0".repeat(20)));
        Due.row(x, "forty acts", 0, 0);
        Due.is("eight acts and four", 12, work(x, acts(8) + "w1w0j0j1"));
        Due.row(x, "eight acts and four", 0, 8);
        fault("w1w0".repeat(19) + "w1j", 79);
        fault("w1w0".repeat(19) + "w1j2", 79);
        fault("w1w0".repeat(19) + "j0a0", 80);
    }

    private static String acts(int many) {
        StringBuilder text = new StringBuilder();
        for (int i = 0; i < many; i++) {
            text.append("a0").append(i).append("11203").append(i);
        }
        return text.toString();
    }

    /** "Refused: none." */
    private static void undoOfNone() {
        PeriodTables x = new PeriodTables();
        Seen.refused(x, "none", -1, y -> y.undo());
        x.way(1);
        Due.is("one", 0, x.undo());
        Seen.refused(x, "none any more", -1, y -> y.undo());
        x.way(0);
        x.way(4);
        Seen.refused(x, "what was refused is none", -1, y -> y.undo());
        x.sheet(0, 1, 1, 1);
        x.years(1, 40);
        x.keep(0);
        x.heard(0, 0);
        x.sign(0);
        Seen.refused(x, "others are none", -1, y -> y.undo());
    }

    /** "ROWS, WAY are as ahead of it": of each call that can be undone. */
    private static void undoOfEachCall() {
        Seen.Call[] calls = {y -> y.adds(0, 3, 1, 0, 5), y -> y.adds(1, 3, 1, 0, 5), y -> y.sets(0, 2, 8, 20, 21),
            y -> y.sets(1, 7, 8, 20, 21), y -> y.sets(0, 2, 9, 20, 21), y -> y.refers(2, 10, 20, 21),
            y -> y.cuts(0, 2, 20, 21), y -> y.cuts(1, 7, 45, 46), y -> y.shifts(0, 2, 5), y -> y.shifts(1, 7, 5),
            y -> y.joins(0), y -> y.joins(1), y -> y.way(1), y -> y.way(2), y -> work(y, "w1j0")};
        for (int k = 0; k < calls.length; k++) {
            PeriodTables x = some();
            x.adds(0, 2, 9, 40, 42);
            x.adds(0, 2, 9, 42, 44);
            String ahead = Seen.rows(x) + x.count(2);
            Due.is("call " + k + " is done", true, calls[k].on(x) >= 0);
            Due.is("6 can be undone", 6, x.count(7));
            Due.is("undo() of call " + k, 5, x.undo());
            Seen.same("as ahead of call " + k, ahead, Seen.rows(x) + x.count(2));
        }
    }

    /** What way() leaves alone an undo() of it leaves alone, too. */
    private static void undoOfWay() {
        PeriodTables x = some();
        x.cuts(1, 7, 45, 50);
        x.undo();
        x.way(2);
        String ahead = Seen.rows(x);
        Due.is("undo()", 3, x.undo());
        Seen.same("ROWS", ahead, Seen.rows(x));
        Due.is("WAY", 0, x.count(2));
    }

    /** "(of 10 that are kept, the latest ones ..)": "how many are left that can be" */
    private static void tenAreKept() {
        for (int many = 9; many < 13; many++) {
            PeriodTables x = new PeriodTables();
            for (int i = 0; i < many; i++) {
                x.adds(0, 0, i, i, i + 1);
            }
            int kept = Math.min(10, many);
            Due.is("kept of " + many, kept, x.count(7));
            for (int i = kept - 1; i >= 0; i--) {
                Due.is("undo() of " + many, i, x.undo());
            }
            Due.is("ROWS left of " + many, many - kept, x.count(0));
            Seen.refused(x, "none is left", -1, y -> y.undo());
        }
    }

    /** More acts than are kept, many times over, and some undone between. */
    private static void ringGoesRound() {
        PeriodTables x = new PeriodTables();
        int at = 50;
        x.adds(0, 0, 0, at, at + 1);
        for (int round = 0; round < 6; round++) {
            for (int i = 0; i < 13; i++) {
                at += round % 2 == 0 ? 1 : -1;
                Due.is("on and back", 1, x.shifts(0, 0, round % 2 == 0 ? 1 : -1));
            }
            int back = 3 + round;
            for (int i = 1; i <= back; i++) {
                Due.is("undo()", 10 - i, x.undo());
                at -= round % 2 == 0 ? 1 : -1;
                Due.is("FROM", at, x.entry(0, 0, 2));
            }
        }
    }

    /** A refused call changes nothing of what is kept, be it full. */
    private static void refusedBehindTen() {
        PeriodTables x = new PeriodTables();
        for (int i = 0; i < 10; i++) {
            x.adds(0, 0, i, i, i + 1);
        }
        x.adds(0, 0, 1, 0, 1);
        x.sets(0, 1, 1, 0, 1);
        x.refers(0, 5, 0, 1);
        x.cuts(1, 0, 0, 1);
        x.shifts(0, 0, -1);
        x.joins(2);
        x.way(0);
        work(x, "w0");
        work(x, "w3");
        for (int i = 9; i >= 0; i--) {
            Due.is("undo()", i, x.undo());
            Due.is("ROWS", i, x.count(0));
        }
        Seen.refused(x, "none is left", -1, y -> y.undo());
    }

    /** "work() of which one act was done, as one" */
    private static void workIsOne() {
        PeriodTables x = new PeriodTables();
        Due.is("one act", 1, work(x, "w1w1"));
        Due.is("one", 1, x.count(7));
        Due.is("none", 0, work(x, "w1w2"));
        Due.is("one", 1, x.count(7));
        Due.is("five", 5, work(x, "w2w1w0w2j0"));
        Due.is("two", 2, x.count(7));
        Due.is("undo()", 1, x.undo());
        Due.is("WAY", 1, x.count(2));
        Due.is("undo()", 0, x.undo());
        Due.is("WAY", 0, x.count(2));
        for (int i = 0; i < 12; i++) {
            Due.is("work()", 1, work(x, i % 2 == 0 ? "w1" : "w0"));
        }
        Due.is("ten", 10, x.count(7));
        Due.is("joins() by which nothing was joined", 1, work(x, "j0"));
        Due.is("undo() of it", 9, x.undo());
        Due.is("WAY", 0, x.count(2));
    }

    /** "(again() forgets them, if it is not refused.)" */
    private static void againForgets() {
        PeriodTables x = some();
        Seen.refused(x, "nothing kept", 0, y -> y.again(0) ? 1 : 0);
        Seen.refused(x, "no number", 0, y -> y.again(2) ? 1 : 0);
        Due.is("three", 3, x.count(7));
        x.keep(1);
        Seen.refused(x, "nothing kept under 0", 0, y -> y.again(0) ? 1 : 0);
        Due.is("again()", true, x.again(1));
        Due.is("none", 0, x.count(7));
        Seen.refused(x, "none", -1, y -> y.undo());
    }
}
