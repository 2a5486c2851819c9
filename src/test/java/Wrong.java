/** Arguments that are none, each kind from the nearest one on. */
final class Wrong {
    static final int[] TABLES = {-1, 2, Integer.MIN_VALUE, Integer.MAX_VALUE};
    static final int[] KEYS = {-1, 10, Integer.MIN_VALUE, Integer.MAX_VALUE};
    static final int[] VALUES = {-1, 100, Integer.MIN_VALUE, Integer.MAX_VALUE};
    static final int[] REFS = {-1, 11, Integer.MIN_VALUE, Integer.MAX_VALUE};
    static final int[] DAYS = {-1, 100, Integer.MIN_VALUE, Integer.MAX_VALUE};
    static final int[] STEPS = {0, 100, -100, Integer.MIN_VALUE, Integer.MAX_VALUE};
    static final int[][] PERIODS = {{0, 0}, {99, 99}, {5, 4}, {-1, 1}, {-1, 0}, {0, 101}, {99, 101}, {100, 101},
        {100, 100}, {0, -1}, {0, Integer.MAX_VALUE}, {Integer.MIN_VALUE, 1}, {Integer.MAX_VALUE, Integer.MIN_VALUE}};

    private Wrong() {
    }
}
