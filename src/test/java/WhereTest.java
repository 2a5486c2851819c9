/** Promise 33: where. */
public final class WhereTest {
    public static void main(String[] args) {
        things();
        binding();
        numbers();
        wrapping();
        faults();
        depth();
        length();
        tableBehindText();
        Due.finish("WhereTest");
    }

    private static PeriodTables some() {
        PeriodTables x = new PeriodTables();
        x.adds(1, 7, 70, 0, 100);
        x.adds(0, 2, 20, 5, 15);
        x.adds(0, 2, 0, 15, 20);
        x.adds(0, 9, 99, 90, 100);
        x.refers(2, 7, 5, 15);
        return x;
    }

    private static void found(String text, int bits, long many, long days, long sum) {
        PeriodTables x = some();
        Due.text(x, text);
        Due.is("where() of " + text, bits, x.where(0));
        Due.row(x, "where() of " + text, many, days, sum);
        Due.is("THE TEXT is empty behind " + text, 0, x.count(9));
    }

    /** What it is of the row of table 1: KEY 7, VALUE 70, REF 10, 0 to 100. */
    private static void value(String text, int want) {
        PeriodTables x = some();
        Due.text(x, text);
        Due.is("where() of " + text, want > 0 ? 1 : 0, x.where(1));
        Due.row(x, "where() of " + text, want > 0 ? 1 : 0, want > 0 ? 100 : 0, want);
    }

    private static void fault(String text, int p) {
        PeriodTables x = some();
        x.longest(0);
        Due.text(x, text);
        Due.is("where() of " + text, -1000 - p, x.where(0));
        Due.row(x, "where() of " + text, 10);
        Due.is("THE TEXT is empty behind " + text, 0, x.count(9));
    }

    private static void things() {
        found("k", 7, 3, 25, 2 + 2 + 9);
        found("v", 5, 2, 20, 119);
        found("r", 7, 3, 25, 7 + 10 + 10);
        found("f", 7, 3, 25, 5 + 15 + 90);
        found("t", 7, 3, 25, 15 + 20 + 100);
        found("l", 7, 3, 25, 25);
        found("i", 6, 2, 15, 3);
        found("r<10", 1, 1, 10, 1);
        found("i-1", 4, 1, 10, 0);
        found("-k", 0, 0, 0, -13);
        found("l=5", 2, 1, 5, 1);
        found("v>20", 4, 1, 10, 1);
        found("0", 0, 0, 0, 0);
        found("(f<16)*(t>15)", 2, 1, 5, 1);
        PeriodTables x = new PeriodTables();
        Due.text(x, "k+1");
        Due.is("of no rows", 0, x.where(1));
        Due.row(x, "where() of no rows", 0, 0, 0);
    }

    private static void binding() {
        value("1+2*3", 7);
        value("2*3+1", 7);
        value("(1+2)*3", 9);
        value("9-3-2", 4);
        value("9-(3-2)", 8);
        value("100/5/2", 10);
        value("100/5*2", 40);
        value("7/2*2", 6);
        value("2*7/4", 3);
        value("-7/2", -3);
        value("7/-2", -3);
        value("0-7/2", -3);
        value("7/0", 0);
        value("7/0+1", 1);
        value("5/(k-7)", 0);
        value("1<2", 1);
        value("2<1", 0);
        value("1<1", 0);
        value("1>1", 0);
        value("2>1", 1);
        value("1=1", 1);
        value("1=2", 0);
        value("1+1=2", 1);
        value("2=1+1", 1);
        value("1<2*3-4", 1);
        value("(1<2)<3", 1);
        value("(1<2)+(2<3)+(3<4)", 3);
        value("-1", -1);
        value("--1", 1);
        value("---1", -1);
        value("2--1", 3);
        value("2---1", 1);
        value("2+-1", 1);
        value("2*-3", -6);
        value("-2*-3", 6);
        value("-(1+2)", -3);
        value("-k+k", 0);
        value("-k<k", 1);
        value("-".repeat(39) + "k", -7);
        value("k*100/100", 7);
    }

    private static void numbers() {
        value("0", 0);
        value("007", 7);
        value("999", 999);
        value("99", 99);
        value("10", 10);
        fault("1000", 3);
        fault("0000", 3);
        fault("1+2345", 5);
        fault("12k", 2);
        fault("k1", 1);
        fault("1 ", 1);
    }

    private static void wrapping() {
        value("999*999*999*999", (int) (999L * 999 * 999 * 999));
        value("999*999*999*999+0>0", (int) (999L * 999 * 999 * 999) > 0 ? 1 : 0);
        int least = 128 * 256 * 256 * 256;
        value("128*256*256*256", least);
        value("-(128*256*256*256)", least);
        value("128*256*256*256/-1", least);
        value("128*256*256*256-1", Integer.MAX_VALUE);
        PeriodTables x = some();
        Due.text(x, "64*256*256*256");
        Due.is("above 0 in all three", 7, x.where(0));
        Due.row(x, "a sum that wraps", 3, 25, 3 * (64 * 256 * 256 * 256));
    }

    private static void faults() {
        fault("", 0);
        fault(" k", 0);
        fault("K", 0);
        fault("x", 0);
        fault("*k", 0);
        fault("+k", 0);
        fault(")", 0);
        fault("<1", 0);
        fault("()", 1);
        fault("k+", 2);
        fault("k+*", 2);
        fault("k++k", 2);
        fault("k-", 2);
        fault("k--", 3);
        fault("-", 1);
        fault("k*", 2);
        fault("k*/k", 2);
        fault("k<", 2);
        fault("k<k<k", 3);
        fault("k<k=k", 3);
        fault("k=k>k", 3);
        fault("1+k>k*2=k", 7);
        fault("k<<k", 2);
        fault("k<+k", 2);
        fault("kk", 1);
        fault("k k", 1);
        fault("k(", 1);
        fault("(k)(k)", 3);
        fault("(k)k", 3);
        fault("(k)1", 3);
        fault("k)", 1);
        fault("(k))", 3);
        fault("(k", 2);
        fault("(", 1);
        fault("((k)", 4);
        fault("(k<k<k)", 4);
        fault("(k<k", 4);
        fault("(k+)", 3);
        fault("k!k", 1);
        fault("k" + (char) 0, 1);
        fault("" + (char) 255, 0);
        fault("k" + (char) 233 + "k", 1);
    }

    private static void depth() {
        value("((((k))))", 7);
        value("((((k)+1)+1)+1)", 10);
        value("(k)+((((k))))", 14);
        fault("(((((k)))))", 4);
        fault("((((-(k)))))", 5);
        value("-(-(-(-(k))))", 7);
        fault("(((((", 4);
        fault("((((", 4);
        value("(((k<9)=1)<2)*(((v)))", 70);
    }

    private static String ones(int signs) {
        StringBuilder text = new StringBuilder();
        for (int i = 0; i < signs; i++) {
            text.append(i % 2 == 0 ? '1' : '+');
        }
        return text.toString();
    }

    private static void length() {
        value(ones(39), 20);
        value("1" + ones(39), 30);
        fault(ones(40), 40);
        fault(ones(41), 40);
        fault(ones(80), 40);
        fault("1" + ones(39) + "+1", 40);
        fault("1" + ones(39) + "x", 40);
        fault("1" + ones(39) + " ", 40);
        fault("1" + ones(38) + "xx", 39);
        fault(ones(39) + "++", 40);
        fault(ones(38) + "*1111", 38);
        fault(ones(20) + "x" + ones(50), 20);
        fault("((((" + ones(35) + ")))))", 40);
        fault(ones(37) + "234567", 39);
    }

    private static void tableBehindText() {
        PeriodTables x = some();
        x.longest(0);
        int[] tables = {-1, 2, Integer.MIN_VALUE, Integer.MAX_VALUE};
        for (int bad : tables) {
            Due.text(x, "k");
            Due.is("no TABLE", -1, x.where(bad));
            Due.is("THE TEXT is empty", 0, x.count(9));
            Due.text(x, "k+");
            Due.is("THE TEXT first", -1002, x.where(bad));
            Due.is("THE TEXT is empty", 0, x.count(9));
        }
        Due.row(x, "what was refused", 10);
        Due.is("nothing can be undone of it", 5, x.count(7));
    }
}
