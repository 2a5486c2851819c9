/** Promises 33 to 43: each sentence that names an edge, by itself. */
public final class EdgesRestTest {
    private static final int[] OTHER_NUMBERS = {-1, 2, Integer.MIN_VALUE, Integer.MAX_VALUE};

    public static void main(String[] args) {
        oneToFortySigns();
        moreThanFortySigns();
        comparisonsNotOneBehindTheOther();
        divisions();
        minusAheadOfAThing();
        numbersOfThreeDigits();
        fourInOneAnother();
        thingsOfARow();
        signsThatCantStand();
        intsThatWrap();
        whereOfNoneAndAll();
        tableBehindTheText();
        differsEdges();
        differsFromNothingKept();
        differsRefused();
        heardEdges();
        heardTwelve();
        deniesEdges();
        fitsEdges();
        asksEdges();
        asksOfNone();
        asksLeastOfEqual();
        yearsRefused();
        yearsEdges();
        keepEdges();
        keepRefused();
        againEdges();
        againRefused();
        countEdges();
        countOfAnotherWhat();
        rowEdges();
        Due.finish("EdgesRestTest");
    }

    /** One row in each table: KEY 3, VALUE 99, 10 to 30, REF 7; KEY 7, VALUE 0, 0 to 100. */
    private static PeriodTables some() {
        PeriodTables x = new PeriodTables();
        x.adds(1, 7, 0, 0, 100);
        x.adds(0, 3, 99, 10, 30);
        x.refers(3, 7, 0, 100);
        x.at(0, 3, 10);
        return x;
    }

    private static void value(String text, int want) {
        PeriodTables x = some();
        Due.text(x, text);
        Due.is("where() of " + text, want > 0 ? 1 : 0, x.where(0));
        Due.row(x, "where() of " + text, want > 0 ? 1 : 0, want > 0 ? 20 : 0, want);
        Due.is("THE TEXT is empty", 0, x.count(9));
    }

    private static void fault(String text, int p) {
        PeriodTables x = some();
        Due.text(x, text);
        Due.is("where() of " + text, -1000 - p, x.where(0));
        Due.row(x, "where() of " + text, 7, 10, 30);
        Due.is("THE TEXT is empty", 0, x.count(9));
    }

    /** "an EXPRESSION of 1 to 40 signs" */
    private static void oneToFortySigns() {
        fault("", 0);
        value("k", 3);
        value("7", 7);
        value("1+".repeat(19) + "1", 20);
        value("1+".repeat(19) + "10", 29);
        value("-".repeat(39) + "k", -3);
        value("k" + "*1".repeat(18) + "*10", 30);
        value("(" + "1+".repeat(18) + "10)", 28);
    }

    /** "40, if it has more and the first 40 could go on or end" */
    private static void moreThanFortySigns() {
        String ends = "1+".repeat(19) + "10";
        String goesOn = "1+".repeat(20);
        fault(ends + "0", 40);
        fault(ends + "+", 40);
        fault(ends + ")", 40);
        fault(ends + "x", 40);
        fault(ends + "00000", 40);
        fault(ends + "x".repeat(40), 40);
        fault(goesOn + "1", 40);
        fault(goesOn + "x", 40);
        fault(goesOn, 40);
        fault("(" + "1+".repeat(19) + "1)", 40);
        fault("-".repeat(40), 40);
        fault("-".repeat(41), 40);
        fault("-".repeat(80), 40);
        fault(goesOn.substring(0, 38) + "++1", 38);
        fault(goesOn.substring(0, 39) + "x11", 39);
        fault("x" + goesOn, 0);
        fault("(((((" + goesOn, 4);
        fault("1<1<" + goesOn, 3);
    }

    /** "< > = bind least (two; 1 or 0; not one behind the other)" */
    private static void comparisonsNotOneBehindTheOther() {
        String signs = "<>=";
        for (int i = 0; i < 3; i++) {
            for (int j = 0; j < 3; j++) {
                fault("k" + signs.charAt(i) + "k" + signs.charAt(j) + "k", 3);
                fault("(1" + signs.charAt(i) + "2" + signs.charAt(j) + "3)", 4);
                fault("k" + signs.charAt(i) + signs.charAt(j) + "k", 2);
            }
            fault("" + signs.charAt(i), 0);
            fault("k" + signs.charAt(i), 2);
        }
        value("2<3", 1);
        value("3<3", 0);
        value("4<3", 0);
        value("2>3", 0);
        value("3>3", 0);
        value("4>3", 1);
        value("2=3", 0);
        value("3=3", 1);
        value("4=3", 0);
        value("(1<2)=1", 1);
        value("1=(1<2)", 1);
        value("((3>2)>0)>0", 1);
        value("1+1<1+2", 1);
        value("2*3=3*2", 1);
        value("-1<0", 1);
        value("(1=1)+(1=1)*2", 3);
    }

    /** "then * / (from the left; by 0: 0; cut to 0)" */
    private static void divisions() {
        value("1/0", 0);
        value("0/0", 0);
        value("5/0+5", 5);
        value("5+5/0", 5);
        value("9/0*9", 0);
        value("9/(1-1)", 0);
        value("9/-0", 0);
        value("v/(k-3)", 0);
        value("7/2", 3);
        value("-7/2", -3);
        value("7/-2", -3);
        value("-7/-2", 3);
        value("1/2", 0);
        value("-1/2", 0);
        value("1/2*2", 0);
        value("2*1/2", 1);
        value("100/10/5", 2);
        value("10-3-2", 5);
        value("10-3+2", 9);
    }

    /** "then - ahead of a thing (any many)" */
    private static void minusAheadOfAThing() {
        value("-k", -3);
        value("--k", 3);
        value("---k", -3);
        value("k-k", 0);
        value("k--k", 6);
        value("k---k", 0);
        value("k*-k", -9);
        value("k*--k", 9);
        value("k/-1", -3);
        value("-(k)", -3);
        value("-(-k)", 3);
        value("-k*k", -9);
        value("-k-k", -6);
        value("k<-k", 0);
        value("-k=-k", 1);
        value("-0", 0);
        value("-999", -999);
        fault("-", 1);
        fault("--", 2);
        fault("-)", 1);
        fault("-+k", 1);
        fault("k-+k", 2);
        fault("-*k", 1);
        fault("+k", 0);
        fault("k+-", 3);
    }

    /** "a NUMBER of 1 to 3 digits" */
    private static void numbersOfThreeDigits() {
        value("9", 9);
        value("99", 99);
        value("999", 999);
        value("000", 0);
        value("001", 1);
        fault("0000", 3);
        fault("1000", 3);
        fault("(1000)", 4);
        fault("k+1234", 5);
        fault("-1234", 4);
        fault("1234", 3);
        fault("1k", 1);
        fault("k1", 1);
        fault("1(", 1);
        fault("1.5", 1);
        fault("1 ", 1);
    }

    /** "an EXPRESSION in ( ) (at most 4 in one another)" */
    private static void fourInOneAnother() {
        value("(k)", 3);
        value("((((k))))", 3);
        value("((((1))))+((((1))))", 2);
        value("(1+(1+(1+(1+1))))", 5);
        fault("(((((k)))))", 4);
        fault("(1+(1+(1+(1+(1)))))", 12);
        fault("(((((", 4);
        fault("((((", 4);
        fault("((((k)))", 8);
        fault("((((k)))))", 9);
        fault("()", 1);
        fault("(k", 2);
        fault("k)", 1);
        fault("(k)(k)", 3);
        fault("(k)k", 3);
        fault("k(k)", 1);
        fault("((((k)(", 6);
    }

    private static void thingsOfARow() {
        value("k", 3);
        value("v", 99);
        value("r", 7);
        value("f", 10);
        value("t", 30);
        value("l", 20);
        value("i", 0);
        PeriodTables x = some();
        Due.text(x, "r*100+t");
        Due.is("of TABLE 1", 1, x.where(1));
        Due.row(x, "of TABLE 1", 1, 100, 1100);
    }

    /** "-1000 - p: the sign at p can't stand there": each sign there is, at the start, behind a thing, behind +. */
    private static void signsThatCantStand() {
        String starts = "0123456789kvrftli-(";
        String goesOn = "+-*/<>=";
        for (char sign = 0; sign < 256; sign++) {
            if (starts.indexOf(sign) < 0) {
                fault("" + sign, 0);
                fault("k+" + sign, 2);
                fault("(" + sign, 1);
                fault("k<" + sign, 2);
            } else {
                fault("k" + sign, sign == '-' ? 2 : 1);
            }
            if (goesOn.indexOf(sign) < 0) {
                fault("k" + sign, 1);
                fault("k" + sign + "k", 1);
                fault("(k)" + sign, 3);
            }
        }
    }

    /** "As ints." */
    private static void intsThatWrap() {
        int least = Integer.MIN_VALUE;
        value("2*256*256*256*64", least);
        value("2*256*256*256*64-1", Integer.MAX_VALUE);
        value("-(2*256*256*256*64)", least);
        value("2*256*256*256*64/-1", least);
        value("4*256*256*256*64", 0);
        value("2*256*256*256*64<0", 1);
        PeriodTables x = new PeriodTables();
        for (int i = 0; i < 20; i++) {
            x.adds(0, i / 2, 1, i % 2 * 10, i % 2 * 10 + 5);
        }
        Due.text(x, "127*256*256*256");
        Due.is("all 20", (1 << 20) - 1, x.where(0));
        Due.row(x, "a sum that wraps", 20, 100, 20 * (127 << 24));
    }

    /** "ROWS of a TABLE of which it is above 0 (bits)" */
    private static void whereOfNoneAndAll() {
        PeriodTables x = new PeriodTables();
        Due.text(x, "1");
        Due.is("no ROWS", 0, x.where(0));
        Due.row(x, "no ROWS", 0, 0, 0);
        for (int i = 0; i < 20; i++) {
            x.adds(1, i / 2, i, i % 2 * 50, i % 2 * 50 + 50);
        }
        Due.text(x, "1");
        Due.is("all 20", (1 << 20) - 1, x.where(1));
        Due.row(x, "all 20", 20, 1000, 20);
        Due.text(x, "0");
        Due.is("0 is not above 0", 0, x.where(1));
        Due.row(x, "none", 0, 0, 0);
        Due.text(x, "i-19");
        Due.is("none above 0", 0, x.where(1));
        Due.row(x, "none", 0, 0, -190);
        Due.text(x, "i-18");
        Due.is("the last", 1 << 19, x.where(1));
        Due.row(x, "the last", 1, 50, -170);
        Due.text(x, "1-i");
        Due.is("the first", 1, x.where(1));
        Due.row(x, "the first", 1, 50, -170);
    }

    /** "NONE: another TABLE (asked behind THE TEXT)" */
    private static void tableBehindTheText() {
        for (int bad : Wrong.TABLES) {
            PeriodTables x = some();
            Due.text(x, "k");
            Due.is("no TABLE", -1, x.where(bad));
            Due.is("THE TEXT is empty", 0, x.count(9));
            Due.text(x, "k)");
            Due.is("THE TEXT first", -1001, x.where(bad));
            Due.is("THE TEXT is empty", 0, x.count(9));
            Due.is("an empty one", -1000, x.where(bad));
            Due.row(x, "the ROW stays", 7, 10, 30);
        }
    }

    /** "At how many DAYS the slice() of a TABLE (KEYS, VALUES; REF aside) is another one" */
    private static void differsEdges() {
        PeriodTables x = new PeriodTables();
        x.keep(0);
        Due.is("both empty", 0, x.differs(0, 0));
        Due.row(x, "both empty");
        x.adds(0, 0, 0, 0, 1);
        Due.is("KEY 0 with VALUE 0, the first day", 1, x.differs(0, 0));
        Due.row(x, "the first day", 0);
        Due.is("the other TABLE", 0, x.differs(1, 0));
        Due.row(x, "the other TABLE");
        x.keep(1);
        x.cuts(0, 0, 0, 1);
        x.adds(0, 9, 0, 99, 100);
        Due.is("the last day", 1, x.differs(0, 0));
        Due.row(x, "the last day", 99);
        Due.is("both", 2, x.differs(0, 1));
        Due.row(x, "both", 0);
        for (int key = 0; key < 9; key++) {
            x.adds(0, key, 1, 0, 100);
        }
        Due.is("all days", 100, x.differs(0, 0));
        Due.row(x, "all days", 0);
        x = some();
        x.keep(1);
        x.refers(3, 10, 0, 100);
        x.way(2);
        Due.is("REF and WAY aside", 0, x.differs(0, 1));
        x.sets(0, 3, 98, 12, 13);
        x.sets(0, 3, 99, 12, 13);
        Due.is("split rows of one VALUE", 0, x.differs(0, 1));
        Due.row(x, "split rows");
        Due.is("nothing was joined", 3, x.count(0));
        x.sets(0, 3, 98, 29, 30);
        Due.is("VALUE", 1, x.differs(0, 1));
        Due.row(x, "VALUE", 29);
        x.sheet(3, 0, 0, 0);
        Due.is("a sheet", 20, x.differs(0, 1));
        Due.row(x, "a sheet", 10);
        x.shifts(0, 3, 1);
        Due.is("not there is another one than 0", 21, x.differs(0, 1));
        Due.row(x, "not there", 10);
    }

    /** "-2: nothing is kept there" */
    private static void differsFromNothingKept() {
        PeriodTables x = some();
        for (int i = 0; i < 2; i++) {
            int k = i;
            Seen.refused(x, "nothing is kept under " + i, -2, y -> y.differs(0, k));
            Seen.refused(x, "nothing is kept under " + i, -2, y -> y.differs(1, k));
        }
        x.keep(0);
        Seen.refused(x, "nothing is kept under 1", -2, y -> y.differs(1, 1));
        Due.is("it is under 0", 0, x.differs(1, 0));
    }

    /** "NONE: others" */
    private static void differsRefused() {
        PeriodTables x = some();
        x.keep(0);
        for (int bad : OTHER_NUMBERS) {
            Seen.refused(x, "differs() from " + bad, -1, y -> y.differs(0, bad));
        }
        for (int bad : Wrong.TABLES) {
            Seen.refused(x, "no TABLE", -1, y -> y.differs(bad, 0));
            Seen.refused(x, "no TABLE ahead of nothing kept", -1, y -> y.differs(bad, 1));
        }
    }

    /** "what 0: .. (0 .. 9); 1: .. (0 .. 9); 2: .. (0 .. 9); 3: .. (1) or none (0)"; "Refused: others" */
    private static void heardEdges() {
        PeriodTables x = some();
        for (int what = -1; what < 5; what++) {
            for (int v = -1; v < 12; v++) {
                int w = what;
                int u = v;
                boolean known = what >= 0 && what < 3 && v >= 0 && v < 10 || what == 3 && (v == 0 || v == 1);
                if (known) {
                    Due.is("heard(" + what + ", " + v + ")", 1, x.heard(what, v));
                    Due.is("denies()", 1, x.denies());
                } else {
                    Seen.refused(x, "heard(" + what + ", " + v + ")", -1, y -> y.heard(w, u));
                }
            }
        }
        int[] far = {Integer.MIN_VALUE, Integer.MAX_VALUE};
        for (int bad : far) {
            Seen.refused(x, "heard(" + bad + ", 0)", -1, y -> y.heard(bad, 0));
            for (int what = 0; what < 4; what++) {
                int w = what;
                Seen.refused(x, "heard(" + what + ", " + bad + ")", -1, y -> y.heard(w, bad));
            }
        }
    }

    /** "Refused: .. 12" */
    private static void heardTwelve() {
        PeriodTables x = some();
        for (int i = 1; i <= 12; i++) {
            Due.is("the same again, " + i, i, x.heard(0, 3));
        }
        Seen.refused(x, "the 13th", -1, y -> y.heard(0, 3));
        Due.is("it fits", 1, x.fits());
        x.denies();
        for (int i = 1; i < 12; i++) {
            x.heard(0, 3);
        }
        Due.is("the 12th is another one", 12, x.heard(0, 4));
        Due.is("the 12th counts", 0, x.fits());
        Seen.refused(x, "the 13th", -1, y -> y.heard(0, 3));
        Seen.refused(x, "what is none, too", -1, y -> y.heard(4, 3));
    }

    /** "It is denied: how many there were." */
    private static void deniesEdges() {
        PeriodTables x = some();
        Due.is("none", 0, x.denies());
        for (int i = 0; i < 12; i++) {
            x.heard(1, 9);
        }
        Due.is("twelve", 12, x.denies());
        Due.is("none any more", 0, x.denies());
        Due.is("what was heard", 0, x.count(6));
        Due.is("the first again", 1, x.heard(0, 4));
        Due.is("it does not fit", 0, x.fits());
    }

    private static void fit(int what, int v, boolean want) {
        PeriodTables x = some();
        x.heard(what, v);
        Due.is("fits() to " + what + ", " + v, want ? 1 : 0, x.fits());
        Due.row(x, "fits()", want ? 1 : 0);
    }

    /** VALUE 99 is 9 tens or more; 10 to 30 has days 10 and 20, not 0 and 30. */
    private static void fitsEdges() {
        for (int v = 0; v < 10; v++) {
            fit(0, v, v == 3);
            fit(1, v, true);
            fit(2, v, v == 1 || v == 2);
        }
        fit(3, 0, false);
        fit(3, 1, true);
        PeriodTables x = new PeriodTables();
        Due.is("no ROWS", 0, x.fits());
        Due.row(x, "no ROWS", 0);
        for (int i = 0; i < 20; i++) {
            x.adds(0, i / 2, 10 * (i / 2) - (i > 1 ? i % 2 : 0), 50 * (i % 2), 50 * (i % 2) + 50);
        }
        Due.is("all 20", (1 << 20) - 1, x.fits());
        Due.row(x, "all 20", 20);
        x.heard(1, 9);
        Due.is("90 fits, 89 does not", 1 << 18, x.fits());
        x.denies();
        x.heard(2, 5);
        Due.is("day 50", 0xAAAAA, x.fits());
        Due.row(x, "day 50", 10);
        x.heard(2, 4);
        Due.is("day 40, too", 0, x.fits());
        Due.row(x, "day 40, too", 0);
    }

    /** "-2: none fits" */
    private static void asksOfNone() {
        PeriodTables x = new PeriodTables();
        Seen.refused(x, "no ROWS", -2, y -> y.asks());
        x.adds(0, 5, 5, 0, 1);
        x.heard(0, 6);
        x.fits();
        Seen.refused(x, "none fits", -2, y -> y.asks());
    }

    /** "so that, it is so or not, the fewest such ROWS are left at most": of one, of twenty, of what fits alone. */
    private static void asksEdges() {
        PeriodTables x = new PeriodTables();
        x.adds(0, 5, 5, 1, 2);
        Due.is("one", 0, x.asks());
        Due.row(x, "one", 1);
        for (int key = 0; key < 10; key++) {
            x.adds(0, key, 5, 1, 2);
            x.adds(0, key, 5, 2, 3);
        }
        Due.is("twenty, two of each KEY", 0, x.asks());
        Due.row(x, "twenty", 18);
        for (int i = 0; i < 12; i++) {
            x.heard(0, 9);
        }
        Due.is("of what fits alone", 0, x.asks());
        Due.row(x, "two", 2);
        Due.is("asking is not hearing", 12, x.count(6));
    }

    /** "of equal ones the least" */
    private static void asksLeastOfEqual() {
        PeriodTables x = new PeriodTables();
        x.adds(1, 0, 0, 0, 100);
        x.adds(0, 8, 95, 0, 1);
        x.adds(0, 9, 0, 90, 91);
        x.refers(8, 0, 0, 1);
        Due.is("KEY 8, ahead of KEY 9", 8, x.asks());
        Due.row(x, "asks()", 1);
        x = two(10, 9, 5, 6, 0);
        Due.is("VALUE 1 ten or more", 11, x.asks());
        x = two(99, 89, 5, 6, 0);
        Due.is("VALUE 9 tens or more", 19, x.asks());
        x = two(5, 5, 0, 6, 0);
        Due.is("day 0", 20, x.asks());
        x = two(5, 5, 90, 91, 0);
        Due.is("day 90", 29, x.asks());
        x = two(5, 5, 91, 92, 1);
        Due.is("a REF, or none", 30, x.asks());
        Due.row(x, "asks()", 1);
        x = two(5, 5, 91, 92, 0);
        Due.is("nothing tells them apart", 0, x.asks());
        Due.row(x, "asks()", 2);
    }

    private static PeriodTables two(int value, int other, int from, int otherFrom, int referring) {
        PeriodTables x = new PeriodTables();
        x.adds(1, 0, 0, 0, 100);
        x.adds(0, 5, value, from, from + 1);
        x.adds(0, 5, other, otherFrom, otherFrom + 1);
        if (referring > 0) {
            x.refers(5, 0, from, from + 1);
        }
        return x;
    }

    /** "NONE: another n." */
    private static void yearsRefused() {
        PeriodTables x = some();
        int[] others = {0, -1, 41, Integer.MIN_VALUE, Integer.MAX_VALUE};
        for (int bad : others) {
            Seen.refused(x, "years(5, " + bad + ")", -1, y -> y.years(5, bad));
        }
        Due.is("1 is none of these", true, x.years(5, 1) >= 0);
        Due.is("40 is none of these", true, x.years(5, 40) >= 0);
    }

    /** "TO 100 at most"; what is refused is not done; tables that are full. */
    private static void yearsEdges() {
        PeriodTables x = new PeriodTables();
        for (int seed = 0; seed < 400; seed++) {
            x.years(seed * 7919, 1);
        }
        long days = 0;
        long products = 0;
        for (int table = 0; table < 2; table++) {
            for (int i = 0; i < x.count(table); i++) {
                Due.is("TO is at most 100", true, x.entry(table, i, 3) <= 100);
                days += x.entry(table, i, 3) - x.entry(table, i, 2);
                products += (long) x.entry(table, i, 2) * x.entry(table, i, 1);
            }
        }
        Due.row(x, "years()", days, products);
        Due.is("at most 20", true, x.count(0) <= 20 && x.count(1) <= 20);
        PeriodTables once = new PeriodTables();
        PeriodTables twice = new PeriodTables();
        once.years(-77, 40);
        twice.years(-77, 40);
        Seen.same("the same seed", Seen.all(once), Seen.all(twice));
    }

    /** "Refused: others." */
    private static void keepRefused() {
        PeriodTables x = some();
        for (int bad : OTHER_NUMBERS) {
            Seen.refused(x, "keep(" + bad + ")", 0, y -> y.keep(bad) ? 1 : 0);
        }
    }

    /** "kept under a number 0 .. 1: true" */
    private static void keepEdges() {
        PeriodTables x = some();
        for (int i = 0; i < 2; i++) {
            int k = i;
            Seen.refused(x, "keep(" + i + ") changes nothing else", 1, y -> y.keep(k) ? 1 : 0);
            Seen.refused(x, "keep(" + i + ") again", 1, y -> y.keep(k) ? 1 : 0);
        }
        x = new PeriodTables();
        Due.is("an empty one", true, x.keep(0));
        x.adds(0, 0, 0, 0, 1);
        Due.is("again(0)", true, x.again(0));
        Due.is("empty again", 0, x.count(0));
    }

    /** "Refused: nothing kept." */
    private static void againRefused() {
        PeriodTables x = some();
        for (int bad : OTHER_NUMBERS) {
            Seen.refused(x, "again(" + bad + ")", 0, y -> y.again(bad) ? 1 : 0);
        }
        for (int i = 0; i < 2; i++) {
            int k = i;
            Seen.refused(x, "nothing is kept under " + i, 0, y -> y.again(k) ? 1 : 0);
        }
        x.keep(1);
        Seen.refused(x, "nothing is kept under 0", 0, y -> y.again(0) ? 1 : 0);
    }

    /** "It is as it was kept under a number." */
    private static void againEdges() {
        PeriodTables x = some();
        x.way(1);
        x.keep(0);
        String first = Seen.rows(x) + x.count(2);
        x.cuts(1, 7, 0, 20);
        x.way(2);
        x.keep(1);
        String second = Seen.rows(x) + x.count(2);
        for (int turn = 0; turn < 3; turn++) {
            Due.is("again(0)", true, x.again(0));
            Seen.same("as kept under 0", first, Seen.rows(x) + x.count(2));
            x.sheet(3, 0, 0, 0);
            x.adds(0, 3, 3, 50, 60);
            Due.is("again(1)", true, x.again(1));
            Seen.same("as kept under 1", second, Seen.rows(x) + x.count(2));
            x.cuts(0, 3, 0, 100);
        }
        x.keep(0);
        x.again(1);
        Due.is("kept anew", true, x.again(0));
        Due.is("ROWS", 0, x.count(0));
    }

    /** "-100 for another what" */
    private static void countOfAnotherWhat() {
        PeriodTables x = some();
        int[] others = {-1, 10, -100, Integer.MIN_VALUE, Integer.MAX_VALUE};
        for (int bad : others) {
            Seen.refused(x, "count(" + bad + ")", -100, y -> y.count(bad));
        }
    }

    /** Of nothing, and of as much as can be. */
    private static void countEdges() {
        PeriodTables x = new PeriodTables();
        for (int what = 0; what < 10; what++) {
            Due.is("count(" + what + ") of a new object", 0, x.count(what));
        }
        x.adds(1, 0, 0, 0, 100);
        for (int i = 0; i < 20; i++) {
            x.adds(0, i / 2, 1, i % 2 * 50, i % 2 * 50 + 50);
        }
        for (int key = 0; key < 10; key++) {
            x.refers(key, 0, 0, 100);
            Due.is("ROWS with a REF", 2 * key + 2, x.count(5));
        }
        for (int i = 0; i < 12; i++) {
            x.heard(0, 0);
        }
        for (int i = 0; i < 20; i++) {
            x.sign(0);
        }
        x.way(2);
        int[] want = {20, 1, 2, 1000, 100, 20, 12, 10, 1, 80};
        for (int what = 0; what < 10; what++) {
            Due.is("count(" + what + "), as much as can be", want[what], x.count(what));
        }
        x.refers(9, 10, 50, 100);
        Due.is("the last one less", 19, x.count(5));
        x.refers(0, 10, 0, 50);
        Due.is("the first one less", 18, x.count(5));
    }

    /** "Number i of the ROW. NoSuchElementException: none such." */
    private static void rowEdges() {
        PeriodTables x = new PeriodTables();
        Due.row(x, "a new object");
        x.slice(0, 0);
        Due.row(x, "slice() of none");
        for (int i = 0; i < 20; i++) {
            x.adds(0, 0, i, 5 * i, 5 * i + 5);
        }
        x.changes(0, 0);
        Due.row(x, "twelve", 5, 10, 15, 20, 25, 30, 35, 40, 45, 50, 55, 60);
        x.longest(0);
        Due.row(x, "one", 5);
        x.gaps(0, 0, 0, 100);
        Due.row(x, "none");
    }
}
