import java.util.ArrayList;
import java.util.List;
import java.util.Random;

/**
 * Terms 2: refused calls change nothing but THE TEXT, questions nothing but the ROW. Two objects are led through the
 * same acts, one of them through refused calls and questions, too; then all that is kept inside is brought to light.
 */
public final class TermsTest {
    private static final int RUNS = 60;
    private static final int ROUNDS = 8;

    public static void main(String[] args) {
        List<Seen.Call> refused = refused();
        List<Seen.Call> questions = questions();
        for (int seed = 0; seed < RUNS; seed++) {
            run(seed, refused, questions);
        }
        textIsEmptied();
        rowStaysBelowNought();
        Due.finish("TermsTest");
    }

    private static void run(int seed, List<Seen.Call> refused, List<Seen.Call> questions) {
        PeriodTables x = new PeriodTables();
        PeriodTables y = new PeriodTables();
        Random ofX = new Random(seed);
        Random ofY = new Random(seed);
        for (int round = 0; round < ROUNDS; round++) {
            lead(x, ofX);
            lead(y, ofY);
            for (int k = 0; k < refused.size(); k++) {
                String ahead = Seen.all(x);
                long answer = refused.get(k).on(x);
                Due.is("refused call " + k + " is refused", true, answer <= 0 && answer != -9);
                Seen.same("refused call " + k + " changes nothing", ahead, Seen.all(x));
            }
            for (int k = 0; k < questions.size(); k++) {
                String ahead = Seen.all(x);
                String butTheRow = Seen.butTheRow(x);
                long answer = questions.get(k).on(x);
                Seen.same("question " + k + " changes nothing", butTheRow, Seen.butTheRow(x));
                if (answer < 0) {
                    Seen.same("question " + k + ": the ROW stays", ahead, Seen.all(x));
                }
            }
            Seen.same("seed " + seed + ", round " + round, Seen.butTheRow(y), Seen.butTheRow(x));
        }
        toLight(seed, x, y);
    }

    /** Some acts, the same for the same drawn numbers. */
    private static void lead(PeriodTables x, Random random) {
        x.years(random.nextInt(), 1 + random.nextInt(10));
        for (int i = 0; i < 3; i++) {
            int key = random.nextInt(10);
            int from = random.nextInt(90);
            x.adds(random.nextInt(2), key, random.nextInt(100), from, from + 1 + random.nextInt(10));
            x.shifts(random.nextInt(2), key, random.nextInt(21) - 10);
            x.way(random.nextInt(3));
        }
        x.heard(random.nextInt(4), random.nextInt(10));
        if (random.nextInt(3) == 0) {
            x.keep(random.nextInt(2));
        }
        if (random.nextInt(6) == 0) {
            x.denies();
        }
    }

    /** What can be undone, what was kept, what was heard. */
    private static void toLight(int seed, PeriodTables x, PeriodTables y) {
        Due.is("fits()", y.fits(), x.fits());
        Due.is("asks()", y.asks(), x.asks());
        for (int i = 0; i < 2; i++) {
            Due.is("differs()", y.differs(0, i), x.differs(0, i));
            Due.is("differs()", y.differs(1, i), x.differs(1, i));
        }
        for (int i = 0; i < 11; i++) {
            Due.is("undo()", y.undo(), x.undo());
            Seen.same("seed " + seed + ", undo() " + i, Seen.butTheRow(y), Seen.butTheRow(x));
        }
        for (int i = 0; i < 2; i++) {
            Due.is("again()", y.again(i), x.again(i));
            Seen.same("seed " + seed + ", again(" + i + ")", Seen.butTheRow(y), Seen.butTheRow(x));
        }
    }

    private static long number(boolean answer) {
        return answer ? 1 : 0;
    }

    /** Calls that are refused whatever there is. */
    private static List<Seen.Call> refused() {
        List<Seen.Call> calls = new ArrayList<>();
        for (int bad : Wrong.TABLES) {
            calls.add(x -> x.adds(bad, 0, 0, 0, 1));
            calls.add(x -> x.sets(bad, 0, 0, 0, 1));
            calls.add(x -> x.cuts(bad, 0, 0, 1));
            calls.add(x -> x.shifts(bad, 0, 1));
            calls.add(x -> x.joins(bad));
        }
        for (int bad : Wrong.KEYS) {
            calls.add(x -> x.adds(0, bad, 0, 0, 1));
            calls.add(x -> x.sets(1, bad, 0, 0, 1));
            calls.add(x -> x.refers(bad, 10, 0, 1));
            calls.add(x -> x.cuts(1, bad, 0, 1));
            calls.add(x -> x.shifts(0, bad, 1));
        }
        for (int[] bad : Wrong.PERIODS) {
            calls.add(x -> x.adds(1, 0, 0, bad[0], bad[1]));
            calls.add(x -> x.sets(0, 0, 0, bad[0], bad[1]));
            calls.add(x -> x.refers(0, 10, bad[0], bad[1]));
            calls.add(x -> x.cuts(0, 0, bad[0], bad[1]));
        }
        for (int bad : Wrong.VALUES) {
            calls.add(x -> x.adds(0, 0, bad, 0, 1));
            calls.add(x -> x.sets(0, 0, bad, 0, 1));
        }
        for (int bad : Wrong.REFS) {
            calls.add(x -> x.refers(0, bad, 0, 1));
        }
        for (int bad : Wrong.STEPS) {
            calls.add(x -> x.shifts(1, 0, bad));
        }
        int[] numbers = {-1, 2, Integer.MIN_VALUE, Integer.MAX_VALUE};
        for (int bad : numbers) {
            calls.add(x -> number(x.keep(bad)));
            calls.add(x -> number(x.again(bad)));
            calls.add(x -> x.heard(3, bad));
            calls.add(x -> x.way(bad == 2 ? 3 : bad));
            calls.add(x -> x.sheet(bad == 2 ? 4 : bad, 1, 1, 1));
            calls.add(x -> number(x.end(bad)));
            calls.add(x -> x.years(1, bad == 2 ? 41 : bad));
        }
        calls.add(x -> x.sheet(0, 21, 1, 1));
        calls.add(x -> x.sheet(1, -1, 1, 1));
        calls.add(x -> x.way(x.count(2)));
        calls.add(x -> told(x, "w1w").work());
        calls.add(x -> told(x, "?").work());
        calls.add(x -> told(x, "k+").where(0));
        calls.add(x -> told(x, "k").where(2));
        return calls;
    }

    private static PeriodTables told(PeriodTables x, String text) {
        Due.text(x, text);
        return x;
    }

    private static List<Seen.Call> questions() {
        List<Seen.Call> calls = new ArrayList<>();
        for (int table = -1; table < 3; table++) {
            int t = table;
            for (int key = -1; key < 11; key += 2) {
                int k = key;
                calls.add(x -> x.at(t, k, 50));
                calls.add(x -> x.gaps(t, k, 10, 90));
                calls.add(x -> x.changes(t, k));
                calls.add(x -> x.free(t, k, 20, 30));
                calls.add(x -> x.mean(t, k));
            }
            calls.add(x -> x.slice(t, 40));
            calls.add(x -> x.lies(t, 0, 0, 1));
            calls.add(x -> x.lies(1, 1, t, 0));
            calls.add(x -> x.rows(t));
            calls.add(x -> x.longest(t));
            calls.add(x -> x.lacks(t));
            calls.add(x -> x.sums(t, 5, 95));
            calls.add(x -> x.fullest(t));
            calls.add(x -> x.spans(t, 40, 45));
            calls.add(x -> x.spans(t, 0, 100));
            calls.add(x -> told(x, "l*v-k").where(t));
            calls.add(x -> told(x, "l*(v").where(t));
            calls.add(x -> x.differs(t, 0));
            calls.add(x -> x.differs(t, 1));
        }
        for (int key = -1; key < 11; key++) {
            int k = key;
            calls.add(x -> x.covers(k, 30, 60));
            calls.add(x -> x.users(k));
            calls.add(x -> x.drags(k, 30, 60));
        }
        calls.add(x -> x.meets(0, 100));
        calls.add(x -> x.meets(50, 50));
        calls.add(x -> x.either());
        calls.add(x -> x.fits());
        calls.add(x -> x.asks());
        calls.add(x -> x.count(7));
        calls.add(x -> x.count(10));
        return calls;
    }

    /** "change nothing but THE TEXT, which a call that reads it empties" */
    private static void textIsEmptied() {
        String[] texts = {"w1", "w1w", "k", "k+", "", "x"};
        for (String text : texts) {
            PeriodTables x = new PeriodTables();
            told(x, text).work();
            Due.is("behind work() of " + text, 0, x.count(9));
            told(x, text).where(0);
            Due.is("behind where() of " + text, 0, x.count(9));
            told(x, text).where(2);
            Due.is("behind where() of no TABLE of " + text, 0, x.count(9));
            told(x, text);
            x.adds(0, 0, 0, 0, 1);
            x.undo();
            x.undo();
            x.keep(0);
            x.again(0);
            x.denies();
            x.years(1, 1);
            x.sheet(0, 1, 1, 1);
            x.slice(0, 0);
            Due.is("behind others", text.length(), x.count(9));
        }
    }

    /** "the ROW stays with each answer below 0": each answer of each call that tells a ROW. */
    private static void rowStaysBelowNought() {
        PeriodTables x = new PeriodTables();
        for (int i = 0; i < 19; i++) {
            x.adds(1, 5, i, 2 * i, 2 * i + 1);
            x.adds(0, 5, i, 2 * i, 2 * i + 1);
        }
        x.adds(1, 7, 1, 50, 60);
        x.adds(0, 7, 1, 50, 60);
        x.refers(7, 7, 50, 60);
        x.at(0, 7, 55);
        Seen.refused(x, "sets() NONE", -1, y -> y.sets(0, 7, 100, 50, 60));
        Seen.refused(x, "sets() -2", -2, y -> y.sets(0, 7, 9, 60, 70));
        Seen.refused(x, "sets() -9", -9, y -> y.sets(0, 7, 9, 50, 51));
        Seen.refused(x, "refers() NONE", -1, y -> y.refers(7, 11, 50, 60));
        Seen.refused(x, "refers() -2", -2, y -> y.refers(7, 7, 60, 70));
        Seen.refused(x, "refers() -3", -3, y -> y.refers(7, 8, 50, 60));
        Seen.refused(x, "refers() -9", -9, y -> y.refers(7, 10, 50, 51));
        Seen.refused(x, "cuts() NONE", -1, y -> y.cuts(2, 7, 50, 60));
        Seen.refused(x, "cuts() -2", -2, y -> y.cuts(1, 7, 60, 70));
        Seen.refused(x, "cuts() -3", -3, y -> y.cuts(1, 7, 50, 51));
        Seen.refused(x, "cuts() -9", -9, y -> y.cuts(0, 7, 51, 52));
        Seen.refused(x, "work() -1 - p", -1, y -> y.where(0) < 0 ? told(y, "z").work() : 0);
        Seen.refused(x, "where() -1000 - p", -1001, y -> told(y, "k)").where(0));
        Seen.refused(x, "where() NONE", -1, y -> told(y, "k").where(2));
        Seen.refused(x, "at() -2", -2, y -> y.at(0, 7, 60));
        Seen.refused(x, "longest() NONE", -1, y -> y.longest(2));
        Seen.refused(x, "mean() -2", -2, y -> y.mean(0, 8));
        Seen.refused(x, "spans() -2", -2, y -> y.spans(0, 0, 2));
        Seen.refused(x, "drags() -2", -2, y -> y.drags(7, 60, 61));
        Seen.refused(x, "differs() -2", -2, y -> y.differs(0, 0));
        x.heard(0, 9);
        Seen.refused(x, "asks() -2", -2, y -> y.asks());
        Seen.refused(x, "years() NONE", -1, y -> y.years(0, 0));
        Due.row(x, "what at() told is still there", 7, 50, 60);
    }
}
