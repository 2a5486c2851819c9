/** Promises 13 and 14: work, undo. */
public final class WorkTest {
    public static void main(String[] args) {
        eachAct();
        toHundred();
        tillRefused();
        faults();
        emptied();
        fullText();
        undoOneByOne();
        undoOfTen();
        undoOfWork();
        undoAndWay();
        undoLeavesTheRest();
        Due.finish("WorkTest");
    }

    private static int work(PeriodTables x, String text) {
        Due.text(x, text);
        return x.work();
    }

    private static void eachAct() {
        PeriodTables x = new PeriodTables();
        Due.is("a, a", 2, work(x, "a15002040a03113050"));
        Due.row(x, "work()", 0, 2);
        Due.table(x, "behind work()", 1, 5, 0, 20, 40, 10);
        Due.is("s, in a row and none", 1, work(x, "s03994045s15995060"));
        Due.row(x, "work()", 1, 4);
        Due.table(x, "behind work()", 0, 3, 11, 30, 40, 10, 3, 99, 40, 45, 10, 3, 11, 45, 50, 10);
        Due.is("r", 1, work(x, "r3053040"));
        Due.is("REF", 5, x.entry(0, 0, 4));
        Due.is("c, refused; by WAY 2", 0, work(x, "c153536w2"));
        Due.is("c by WAY 2", 2, work(x, "w2c153536"));
        Due.row(x, "work()", 0, 7);
        Due.is("j", 1, work(x, "j0"));
        Due.row(x, "work()", 0, 7);
        Due.is("r behind another act", 2, work(x, "j1r3103237"));
        Due.is("VALUE", 11, x.at(0, 3, 31));
        Due.row(x, "at()", 5, 30, 32);
    }

    private static void toHundred() {
        PeriodTables x = new PeriodTables();
        Due.is("acts", 7, work(x, "a15070000a03112000s03122540r3052500c035000w1j0"));
        Due.row(x, "work()", 0, 4);
        Due.table(x, "behind work()", 1, 5, 7, 0, 100, 10);
        Due.table(x, "behind work()", 0, 3, 11, 20, 25, 10, 3, 12, 25, 40, 5, 3, 11, 40, 50, 5);
        Due.is("WAY", 1, x.count(2));
    }

    private static void tillRefused() {
        PeriodTables x = new PeriodTables();
        Due.is("the second is refused", 1, work(x, "a03110010a03110910w1"));
        Due.row(x, "work()", 1, 1);
        Due.is("the third was not done", 0, x.count(2));
        Due.is("no PERIOD", 0, work(x, "a03115040w1"));
        Due.row(x, "work()", 1, 1);
        Due.is("REF 11", 0, work(x, "r3110010"));
        Due.row(x, "work()", 1, 1);
        Due.is("REF 10", 1, work(x, "r3100010"));
        Due.is("it is so", 0, work(x, "w0"));
        Due.is("joins() by which nothing is joined", 2, work(x, "j0j1"));
        Due.row(x, "work()", 0, 1);
        Due.is("sets() that changes nothing", 1, work(x, "s03110099"));
        Due.is("cuts() of nothing", 0, work(x, "c031000"));
        Due.is("cuts() of all", 1, work(x, "c030000"));
        Due.row(x, "work()", 0, 0);
    }

    private static void fault(String text, int p) {
        PeriodTables x = new PeriodTables();
        x.adds(0, 0, 0, 0, 1);
        x.longest(0);
        Due.is("work() of " + text, -1 - p, work(x, text));
        Due.row(x, "work() of " + text, 1);
        Due.is("nothing was done", 1, x.count(7));
        Due.is("THE TEXT is empty", 0, x.count(9));
    }

    private static void faults() {
        fault("x", 0);
        fault(" ", 0);
        fault("A", 0);
        fault("w1x", 2);
        fault("w1 ", 2);
        fault("w1w", 3);
        fault("w", 1);
        fault("w3", 1);
        fault("w/", 1);
        fault("w:", 1);
        fault("j", 1);
        fault("j2", 1);
        fault("ja", 1);
        String[] acts = {"a19999999", "s09999999", "r9999999", "c199999"};
        for (String act : acts) {
            for (int end = 1; end < act.length(); end++) {
                fault(act.substring(0, end), end);
                fault("j0" + act.substring(0, end), 2 + end);
                fault(act.substring(0, end) + ":", end);
                fault(act.substring(0, end) + "/w1", end);
                fault("w1" + act.substring(0, end) + "w1", 2 + end);
            }
            fault(act + "0", act.length());
        }
        fault("a2", 1);
        fault("s2", 1);
        fault("c2", 1);
        fault("r:", 1);
    }

    private static void emptied() {
        PeriodTables x = new PeriodTables();
        Due.is("an empty one", 0, x.work());
        Due.row(x, "an empty work()", 0, 0);
        Due.is("it can't be undone", 0, x.count(7));
        work(x, "w1");
        Due.is("THE TEXT is empty", 0, x.count(9));
        Due.is("an empty one", 0, x.work());
        Due.is("w1 was done once", 1, x.count(7));
    }

    private static void fullText() {
        PeriodTables x = new PeriodTables();
        StringBuilder acts = new StringBuilder();
        for (int i = 0; i < 40; i++) {
            acts.append(i % 2 == 0 ? "w1" : "w0");
        }
        Due.is("40 acts", 40, work(x, acts.toString()));
        Due.is("as one", 1, x.count(7));
        Due.is("it ends too early at 80", -81, work(x, acts.substring(0, 78) + "a1"));
    }

    private static void undoOneByOne() {
        PeriodTables x = new PeriodTables();
        x.adds(1, 5, 1, 0, 100);
        x.adds(0, 1, 10, 0, 50);
        x.sets(0, 1, 20, 25, 75);
        x.refers(1, 5, 10, 30);
        x.cuts(0, 1, 40, 45);
        x.shifts(0, 1, 50);
        x.joins(0);
        x.way(2);
        Due.is("8 acts", 8, x.count(7));
        Due.is("way()", 7, x.undo());
        Due.is("WAY", 0, x.count(2));
        Due.is("joins()", 6, x.undo());
        Due.is("shifts()", 5, x.undo());
        Due.table(x, "behind undo()", 0, 1, 10, 0, 10, 10, 1, 10, 10, 25, 5, 1, 20, 25, 30, 5, 1, 20, 30, 40, 10,
                1, 20, 45, 50, 10);
        Due.is("cuts()", 4, x.undo());
        Due.table(x, "behind undo()", 0, 1, 10, 0, 10, 10, 1, 10, 10, 25, 5, 1, 20, 25, 30, 5, 1, 20, 30, 50, 10);
        Due.is("refers()", 3, x.undo());
        Due.table(x, "behind undo()", 0, 1, 10, 0, 25, 10, 1, 20, 25, 50, 10);
        Due.is("sets()", 2, x.undo());
        Due.table(x, "behind undo()", 0, 1, 10, 0, 50, 10);
        Due.is("adds()", 1, x.undo());
        Due.table(x, "behind undo()", 0);
        Due.is("adds()", 0, x.undo());
        Due.table(x, "behind undo()", 1);
        Due.is("none", -1, x.undo());
    }

    private static void undoOfTen() {
        PeriodTables x = new PeriodTables();
        for (int i = 0; i < 15; i++) {
            x.adds(0, 0, i, i, i + 1);
            Due.is("what can be undone", Math.min(10, i + 1), x.count(7));
        }
        for (int i = 9; i >= 0; i--) {
            Due.is("undo()", i, x.undo());
            Due.is("rows left", 5 + i, x.count(0));
        }
        Due.is("none", -1, x.undo());
        Due.is("rows left", 5, x.count(0));
        x.adds(0, 1, 1, 1, 2);
        x.adds(0, 1, 1, 2, 2);
        x.adds(0, 1, 1, 1, 2);
        Due.is("what is refused can't be undone", 1, x.count(7));
        x.joins(0);
        Due.is("joins() by which nothing was joined can", 2, x.count(7));
        Due.is("undo()", 1, x.undo());
        Due.is("rows", 6, x.count(0));
        Due.is("undo()", 0, x.undo());
        Due.is("rows", 5, x.count(0));
    }

    private static void undoOfWork() {
        PeriodTables x = new PeriodTables();
        x.adds(0, 0, 1, 0, 10);
        Due.is("three acts and a refused one", 3, work(x, "w2a01010203s00090005w2"));
        Due.is("as one", 2, x.count(7));
        Due.is("undo()", 1, x.undo());
        Due.table(x, "behind undo()", 0, 0, 1, 0, 10, 10);
        Due.is("WAY", 0, x.count(2));
        Due.is("no act done", 0, work(x, "w0w1"));
        Due.is("work() that did nothing can't be undone", 1, x.count(7));
        Due.is("of a fault", -3, work(x, "w1x"));
        Due.is("nor one with a fault", 1, x.count(7));
    }

    private static void undoAndWay() {
        PeriodTables x = new PeriodTables();
        x.adds(1, 5, 1, 0, 100);
        x.adds(0, 1, 10, 0, 50);
        x.refers(1, 5, 0, 50);
        x.way(2);
        x.cuts(1, 5, 20, 30);
        Due.is("split", 3, x.count(0));
        Due.is("undo()", 4, x.undo());
        Due.table(x, "behind undo()", 0, 1, 10, 0, 50, 5);
        Due.table(x, "behind undo()", 1, 5, 1, 0, 100, 10);
        Due.is("WAY", 2, x.count(2));
    }

    private static void undoLeavesTheRest() {
        PeriodTables x = new PeriodTables();
        x.adds(0, 1, 10, 0, 50);
        x.keep(0);
        x.heard(0, 1);
        x.longest(0);
        x.sign(7);
        Due.is("undo()", 0, x.undo());
        Due.row(x, "undo()", 50);
        Due.is("signs", 4, x.count(9));
        Due.is("heard", 1, x.count(6));
        Due.is("again()", true, x.again(0));
        Due.is("rows", 1, x.count(0));
        Due.is("again() forgets", -1, x.undo());
        x.way(1);
        Due.is("again() that is refused", false, x.again(1));
        Due.is("forgets none", 1, x.count(7));
        Due.is("again() that is refused", false, x.again(2));
        Due.is("forgets none", 0, x.undo());
    }
}
