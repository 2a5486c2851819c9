/** Promises 34 and 40 to 43: differs, keep, again, count, row. */
public final class KeptTest {
    public static void main(String[] args) {
        differs();
        differsByDays();
        keepAndAgain();
        again();
        count();
        row();
        Due.finish("KeptTest");
    }

    private static void differs() {
        PeriodTables x = new PeriodTables();
        x.adds(0, 3, 30, 10, 20);
        x.adds(1, 3, 30, 10, 20);
        x.longest(0);
        Due.is("nothing is kept there", -2, x.differs(0, 0));
        Due.is("nothing is kept there", -2, x.differs(1, 1));
        Due.row(x, "differs() of nothing", 10);
        Due.is("no TABLE", -1, x.differs(2, 0));
        Due.is("no TABLE", -1, x.differs(-1, 0));
        Due.is("no number", -1, x.differs(0, 2));
        Due.is("no number", -1, x.differs(0, -1));
        Due.is("no number", -1, x.differs(0, Integer.MIN_VALUE));
        x.keep(1);
        Due.is("still nothing there", -2, x.differs(0, 0));
        Due.is("still no TABLE", -1, x.differs(2, 1));
        Due.row(x, "differs() of nothing", 10);
        Due.is("it does not differ", 0, x.differs(0, 1));
        Due.row(x, "differs() of the same");
    }

    private static void differsByDays() {
        PeriodTables x = new PeriodTables();
        x.adds(1, 5, 0, 0, 100);
        x.adds(0, 3, 30, 10, 20);
        x.adds(0, 4, 0, 15, 25);
        x.keep(0);
        x.sets(0, 3, 31, 13, 14);
        Due.is("one day", 1, x.differs(0, 0));
        Due.row(x, "differs()", 13);
        x.sets(0, 3, 31, 12, 14);
        Due.is("VALUE is another one", 2, x.differs(0, 0));
        Due.row(x, "differs()", 12);
        x.cuts(0, 4, 13, 16);
        Due.is("a KEY with VALUE 0 is not there", 3, x.differs(0, 0));
        Due.row(x, "differs()", 12);
        x.adds(0, 9, 0, 99, 100);
        x.adds(0, 2, 5, 0, 1);
        Due.is("KEYS that were not there", 5, x.differs(0, 0));
        Due.row(x, "differs()", 0);
        Due.is("the other TABLE", 0, x.differs(1, 0));
        Due.row(x, "differs()");
        x.again(0);
        x.refers(3, 5, 10, 15);
        x.sets(1, 5, 1, 0, 1);
        x.sets(1, 5, 0, 0, 1);
        Due.is("REF aside, and rows", 0, x.differs(0, 0));
        Due.is("rows", 3, x.count(0));
        Due.is("of TABLE 1, too", 0, x.differs(1, 0));
        x.cuts(0, 3, 0, 100);
        x.adds(0, 5, 30, 10, 20);
        Due.is("a VALUE of another KEY", 10, x.differs(0, 0));
        Due.row(x, "differs()", 10);
        x.adds(0, 3, 29, 10, 20);
        x.sets(0, 4, 1, 24, 25);
        Due.is("sums that are the same", 11, x.differs(0, 0));
        x = new PeriodTables();
        x.keep(0);
        x.adds(0, 0, 1, 99, 100);
        Due.is("KEY 0, VALUE 1, the last day", 1, x.differs(0, 0));
        Due.row(x, "differs()", 99);
    }

    private static void keepAndAgain() {
        PeriodTables x = new PeriodTables();
        Due.is("keep(2)", false, x.keep(2));
        Due.is("keep(-1)", false, x.keep(-1));
        Due.is("keep(MAX)", false, x.keep(Integer.MAX_VALUE));
        Due.is("again(0)", false, x.again(0));
        Due.is("again(-1)", false, x.again(-1));
        Due.is("again(2)", false, x.again(2));
        Due.is("keep(0)", true, x.keep(0));
        x.adds(0, 1, 2, 3, 4);
        x.adds(1, 5, 6, 7, 8);
        x.way(2);
        Due.is("keep(1)", true, x.keep(1));
        Due.is("keep() can't be undone", 3, x.count(7));
        x.cuts(0, 1, 0, 100);
        x.sets(1, 5, 9, 0, 100);
        x.way(1);
        Due.is("again(1)", true, x.again(1));
        Due.table(x, "as kept", 0, 1, 2, 3, 4, 10);
        Due.table(x, "as kept", 1, 5, 6, 7, 8, 10);
        Due.is("WAY", 2, x.count(2));
        Due.is("nothing can be undone", 0, x.count(7));
        Due.is("again(0)", true, x.again(0));
        Due.is("rows", 0, x.count(0) + x.count(1));
        Due.is("WAY", 0, x.count(2));
        Due.is("again(1), once more", true, x.again(1));
        Due.is("rows", 2, x.count(0) + x.count(1));
        x.adds(0, 1, 2, 5, 6);
        Due.is("keep(1), another one", true, x.keep(1));
        x.undo();
        Due.is("again(1)", true, x.again(1));
        Due.is("rows", 2, x.count(0));
    }

    private static void again() {
        PeriodTables x = new PeriodTables();
        x.adds(0, 1, 2, 3, 4);
        x.keep(0);
        x.longest(0);
        x.heard(1, 1);
        x.sign(0x77316A30);
        x.cuts(0, 1, 3, 4);
        Due.is("again(0)", true, x.again(0));
        Due.row(x, "again() leaves the ROW: cuts() told", 1, 0);
        Due.is("what was heard stays", 1, x.count(6));
        Due.is("THE TEXT stays", 2, x.work());
        Due.is("work() can be undone", 1, x.count(7));
        Due.is("undo()", 0, x.undo());
        Due.table(x, "as kept", 0, 1, 2, 3, 4, 10);
    }

    private static void count() {
        PeriodTables x = new PeriodTables();
        x.adds(1, 5, 6, 0, 90);
        x.adds(1, 6, 6, 5, 90);
        x.adds(0, 1, 2, 3, 9);
        x.adds(0, 2, 2, 0, 100);
        x.adds(0, 2, 2, 0, 100);
        x.refers(1, 5, 0, 5);
        x.way(2);
        x.heard(0, 0);
        x.heard(0, 1);
        x.sign(0);
        x.end(3);
        x.at(0, 1, 3);
        int[] want = {3, 2, 2, 106, 175, 1, 2, 6, 3, 3};
        for (int what = 0; what < 10; what++) {
            Due.is("count(" + what + ")", want[what], x.count(what));
        }
        int[] others = {-1, 10, Integer.MIN_VALUE, Integer.MAX_VALUE};
        for (int bad : others) {
            Due.is("count(" + bad + ")", -100, x.count(bad));
        }
    }

    private static void row() {
        PeriodTables x = new PeriodTables();
        Due.row(x, "a new object");
        x.adds(0, 1, 2, 3, 9);
        Due.row(x, "adds()");
        x.at(0, 1, 3);
        Due.row(x, "at()", 10, 3, 9);
        x.longest(0);
        Due.row(x, "longest()", 6);
        x.free(0, 1, 0, 1);
        x.keep(0);
        x.count(0);
        x.undo();
        Due.row(x, "calls that tell none", 6);
        x.slice(0, 0);
        Due.row(x, "slice() of nothing");
    }
}
