import java.util.List;

/** Numbers that look drawn by lot, the same in each run. */
final class Chance {
    private long state;

    Chance(long seed) {
        state = seed * 0x9E3779B97F4A7C15L + 0x1234567L;
        below(2);
        below(2);
    }

    int below(int n) {
        state = state * 6364136223846793005L + 1442695040888963407L;
        return (int) Long.remainderUnsigned(state >>> 24, n);
    }

    int from(int low, int high) {
        return low + below(high - low + 1);
    }

    boolean oneIn(int n) {
        return below(n) == 0;
    }

    int of(int... all) {
        return all[below(all.length)];
    }

    <T> T of(List<T> all) {
        return all.get(below(all.size()));
    }
}
