import java.util.NoSuchElementException;
import java.util.Random;

/** Long runs of drawn calls, each compared, with the whole state, with what SlowTables answers. */
public final class AgainstSlowTest {
    private static final int RUNS = 600;
    private static final int CALLS = 512;
    private static final String[] ATOMS = {"k", "v", "r", "f", "t", "l", "i"};

    private final Random random;
    private final PeriodTables x = new PeriodTables();
    private final SlowTables slow = new SlowTables();
    private final int keys;
    private final int longest;
    private String call = "";

    private AgainstSlowTest(int seed) {
        random = new Random(seed);
        keys = 1 + random.nextInt(10);
        longest = random.nextInt(4) == 0 ? 4 : random.nextInt(2) == 0 ? 20 : 60;
    }

    public static void main(String[] args) {
        for (int seed = 0; seed < RUNS; seed++) {
            new AgainstSlowTest(seed).run(seed);
        }
        Due.finish("AgainstSlowTest");
    }

    private void run(int seed) {
        for (int i = 0; i < CALLS; i++) {
            long[] answers = random.nextInt(100) < 45 ? act() : random.nextInt(10) < 7 ? question() : rest();
            String name = "seed " + seed + ", call " + i + ": " + call;
            Due.is(name, answers[0], answers[1]);
            same(name);
        }
    }

    private void same(String name) {
        for (int what = 0; what < 10; what++) {
            Due.is("count(" + what + ") behind " + name, slow.count(what), x.count(what));
        }
        for (int table = 0; table < 2; table++) {
            for (int k = 0; k < 5 * slow.count(table); k++) {
                Due.is("entry behind " + name, slow.entry(table, k / 5, k % 5), x.entry(table, k / 5, k % 5));
            }
        }
        for (int i = 0; i < slow.told.size(); i++) {
            Due.is("row(" + i + ") behind " + name, slow.told.get(i), x.row(i));
        }
    }

    // Arguments: good ones mostly.

    private boolean rarely() {
        return random.nextInt(60) == 0;
    }

    private int odd() {
        int[] odds = {-1, 2, 10, 11, 100, 101, -100, Integer.MAX_VALUE, Integer.MIN_VALUE};
        return odds[random.nextInt(odds.length)];
    }

    private int table() {
        return rarely() ? odd() : random.nextInt(2);
    }

    private int key() {
        return rarely() ? odd() : random.nextInt(keys);
    }

    private int value() {
        return rarely() ? odd() : random.nextInt(2) == 0 ? random.nextInt(3) : random.nextInt(100);
    }

    private int from() {
        return rarely() ? odd() : random.nextInt(100);
    }

    private int to(int from) {
        return rarely() ? odd() : (int) Math.min(100L, (long) from + 1 + random.nextInt(longest));
    }

    private int number() {
        return rarely() ? odd() : random.nextInt(20);
    }

    private long[] both(String name, long due, long got) {
        call = name;
        return new long[] {due, got};
    }

    private long[] act() {
        int t = table();
        int k = key();
        int v = value();
        int f = from();
        int u = to(f);
        int ref = rarely() ? odd() : random.nextInt(4) == 0 ? 10 : random.nextInt(keys);
        int by = rarely() ? odd() : random.nextInt(3) == 0 ? random.nextInt(199) - 99 : random.nextInt(11) - 5;
        String all = "(" + t + ", " + k + ", " + v + ", " + f + ", " + u + ", ref " + ref + ", by " + by + ")";
        switch (random.nextInt(16)) {
            case 0, 1, 2, 3, 4:
                return both("adds" + all, slow.adds(t, k, v, f, u), x.adds(t, k, v, f, u));
            case 5, 6:
                return both("sets" + all, slow.sets(t, k, v, f, u), x.sets(t, k, v, f, u));
            case 7, 8, 9:
                return both("refers" + all, slow.refers(k, ref, f, u), x.refers(k, ref, f, u));
            case 10, 11:
                return both("cuts" + all, slow.cuts(t, k, f, u), x.cuts(t, k, f, u));
            case 12, 13:
                return both("shifts" + all, slow.shifts(t, k, by), x.shifts(t, k, by));
            case 14:
                return both("joins" + all, slow.joins(t), x.joins(t));
            default:
                int way = rarely() ? odd() : random.nextInt(3);
                return both("way(" + way + ")", slow.way(way), x.way(way));
        }
    }

    private long[] question() {
        int t = table();
        int k = key();
        int f = from();
        int u = random.nextInt(3) == 0 ? 100 : to(f);
        int i = number();
        int j = number();
        int other = table();
        int n = rarely() ? odd() : 1 + random.nextInt(random.nextInt(2) == 0 ? 10 : 100);
        String all = "(" + t + ", " + k + ", " + f + ", " + u + "; " + i + ", " + other + ", " + j + "; " + n + ")";
        switch (random.nextInt(20)) {
            case 0:
                return both("at" + all, slow.at(t, k, f), x.at(t, k, f));
            case 1:
                return both("slice" + all, slow.slice(t, f), x.slice(t, f));
            case 2:
                return both("gaps" + all, slow.gaps(t, k, f, u), x.gaps(t, k, f, u));
            case 3:
                return both("covers" + all, slow.covers(k, f, u), x.covers(k, f, u));
            case 4:
                return both("lies" + all, slow.lies(t, i, other, j), x.lies(t, i, other, j));
            case 5:
                return both("changes" + all, slow.changes(t, k), x.changes(t, k));
            case 6:
                return both("rows" + all, slow.rows(t), x.rows(t));
            case 7:
                return both("longest" + all, slow.longest(t), x.longest(t));
            case 8:
                return both("free" + all, slow.free(t, k, f, n), x.free(t, k, f, n));
            case 9:
                return both("meets" + all, slow.meets(f, u), x.meets(f, u));
            case 10:
                return both("lacks" + all, slow.lacks(t), x.lacks(t));
            case 11:
                return both("either" + all, slow.either(), x.either());
            case 12:
                return both("sums" + all, slow.sums(t, f, u), x.sums(t, f, u));
            case 13:
                return both("mean" + all, slow.mean(t, k), x.mean(t, k));
            case 14:
                return both("fullest" + all, slow.fullest(t), x.fullest(t));
            case 15, 16:
                return both("spans" + all, slow.spans(t, f, u), x.spans(t, f, u));
            case 17:
                return both("users" + all, slow.users(k), x.users(k));
            case 18:
                return both("drags" + all, slow.drags(k, f, u), x.drags(k, f, u));
            default:
                return both("entry" + all, slow.entry(t, i, j), entryOrThrown(t, i, j));
        }
    }

    private long entryOrThrown(int table, int i, int what) {
        try {
            return x.entry(table, i, what);
        } catch (NoSuchElementException e) {
            return Long.MIN_VALUE;
        }
    }

    private long[] rest() {
        int i = rarely() ? odd() : random.nextInt(2);
        int what = rarely() ? odd() : random.nextInt(4);
        int v = rarely() ? odd() : random.nextInt(what == 3 ? 2 : 10);
        switch (random.nextInt(16)) {
            case 0:
                return both("undo()", slow.undo(), x.undo());
            case 1:
                return both("keep(" + i + ")", slow.keep(i), x.keep(i) ? 1 : 0);
            case 2:
                return both("again(" + i + ")", slow.again(i), x.again(i) ? 1 : 0);
            case 3:
                int t = table();
                return both("differs(" + t + ", " + i + ")", slow.differs(t, i), x.differs(t, i));
            case 4:
                return both("heard(" + what + ", " + v + ")", slow.heard(what, v), x.heard(what, v));
            case 5:
                return both("denies()", slow.denies(), x.denies());
            case 6:
                return both("fits()", slow.fits(), x.fits());
            case 7:
                return both("asks()", slow.asks(), x.asks());
            case 8:
                int seed = random.nextInt();
                int n = rarely() ? odd() : random.nextInt(8);
                return both("years(" + seed + ", " + n + ")", slow.years(seed, n), x.years(seed, n));
            case 9:
                return sheet();
            case 10, 11, 12:
                return work();
            default:
                return where();
        }
    }

    private long[] sheet() {
        int kind = rarely() ? odd() : random.nextInt(8) == 0 ? 3 : random.nextInt(3);
        int n = rarely() ? odd() : random.nextInt(22);
        int f = random.nextInt(3) == 0 ? random.nextInt() : random.nextInt(100);
        int step = random.nextInt(3) == 0 ? random.nextInt() : random.nextInt(9) - 4;
        String all = "sheet(" + kind + ", " + n + ", " + f + ", " + step + ")";
        return both(all, slow.sheet(kind, n, f, step), x.sheet(kind, n, f, step));
    }

    // Texts.

    private void text(String text) {
        if (random.nextInt(4) != 0) {
            Due.is("end(0)", slow.end(0), x.end(0) ? 1 : 0);
        }
        for (int p = 0; p < text.length(); p += 4) {
            int v = 0;
            for (int q = p; q < p + 4; q++) {
                v = v << 8 | (q < text.length() ? text.charAt(q) : 'x');
            }
            Due.is("sign()", slow.sign(v), x.sign(v));
        }
        int n = random.nextInt(20) == 0 ? random.nextInt(90) - 5 : text.length();
        Due.is("end()", slow.end(n), x.end(n) ? 1 : 0);
    }

    private String marred(String text, String signs) {
        if (random.nextInt(3) != 0 || text.isEmpty()) {
            return text;
        }
        int p = random.nextInt(text.length());
        char sign = random.nextInt(5) == 0 ? (char) random.nextInt(256) : signs.charAt(random.nextInt(signs.length()));
        String rest = text.substring(random.nextInt(2) == 0 ? p : p + 1);
        return random.nextInt(3) == 0 ? text.substring(0, p) : text.substring(0, p) + sign + rest;
    }

    private String two(int n) {
        return "" + n % 100 / 10 + n % 10;
    }

    private long[] work() {
        StringBuilder acts = new StringBuilder();
        for (int i = random.nextInt(12); i > 0; i--) {
            int f = random.nextInt(100);
            String period = two(f) + two(Math.min(100, f + 1 + random.nextInt(longest)));
            String portion = "" + random.nextInt(2) + random.nextInt(keys);
            switch (random.nextInt(7)) {
                case 0, 1 -> acts.append('a').append(portion).append(two(random.nextInt(100))).append(period);
                case 2 -> acts.append('s').append(portion).append(two(random.nextInt(100))).append(period);
                case 3 -> acts.append('r').append(random.nextInt(keys)).append(two(random.nextInt(11))).append(period);
                case 4 -> acts.append('c').append(portion).append(period);
                case 5 -> acts.append('j').append(random.nextInt(2));
                default -> acts.append('w').append(random.nextInt(3));
            }
        }
        text(marred(acts.toString(), "asrcjw0123456789"));
        return both("work() of " + acts, slow.work(), x.work());
    }

    private long[] where() {
        String condition = marred(expression(0), "kvrftli0123456789+-*/<>=()");
        text(condition);
        int t = table();
        return both("where(" + t + ") of " + condition, slow.where(t), x.where(t));
    }

    private String expression(int depth) {
        return random.nextInt(3) == 0 ? sum(depth) + "<>=".charAt(random.nextInt(3)) + sum(depth) : sum(depth);
    }

    private String sum(int depth) {
        StringBuilder result = new StringBuilder(thing(depth));
        while (random.nextInt(5) < 2) {
            result.append("+-*/".charAt(random.nextInt(4))).append(thing(depth));
        }
        return result.toString();
    }

    private String thing(int depth) {
        int kind = random.nextInt(8);
        if (kind == 0) {
            return "-" + thing(depth);
        }
        if (kind == 1 && depth < 5) {
            return "(" + expression(depth + 1) + ")";
        }
        return kind < 4 ? "" + random.nextInt(kind == 3 ? 1000 : 10) : ATOMS[random.nextInt(ATOMS.length)];
    }
}
