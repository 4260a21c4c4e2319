/** Numbers that look random and are the same in every run. */
final class Numbers {
    private long state;

    Numbers(long seed) {
        state = seed * 0x9E3779B97F4A7C15L + 1;
        below(2);
        below(2);
    }

    /** A number from 0 to bound - 1. */
    int below(int bound) {
        state = state * 6364136223846793005L + 1442695040888963407L;
        return (int) ((state >>> 33) % bound);
    }

    /** A number from least to most. */
    int from(int least, int most) {
        return least + below(most - least + 1);
    }

    /** A number from least to most, in most cases one of these or beside them. */
    int nearEnd(int least, int most) {
        int drawn = below(100);
        if (drawn < 20) {
            return from(least, most);
        }
        return drawn < 50 ? least : drawn < 80 ? most : drawn < 90 ? least + 1 : most - 1;
    }

    /** True in so many of 100 cases. */
    boolean percent(int cases) {
        return below(100) < cases;
    }
}
