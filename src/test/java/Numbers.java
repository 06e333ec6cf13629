/** A fixed row of numbers, the same in every run of the tests. */
final class Numbers {
    private long seed;

    Numbers(long seed) {
        this.seed = seed;
    }

    /** The next of the row, 0 .. most. */
    int upTo(int most) {
        seed = seed * 6364136223846793005L + 1442695040888963407L;
        return (int) ((seed >>> 33) % (most + 1L));
    }

    /** Often small, sometimes the edges. */
    int number(int least, int most) {
        int kind = upTo(9);
        if (kind == 0) {
            return least;
        }
        if (kind == 1) {
            return most;
        }
        int bound = most - least;
        for (int halves = upTo(16); halves > 0; halves--) {
            bound /= 2;
        }
        return least + upTo(bound);
    }
}
