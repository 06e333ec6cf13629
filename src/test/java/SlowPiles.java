import java.math.BigInteger;

/**
 * The document's words again in their slowest form, to compare with: every place is tried one by one,
 * and every sum is made of big whole numbers where one might run over.
 */
final class SlowPiles {
    static final int NONE = -1000000;
    private static final int FAR = 100000;

    static final class One {
        int spring;
        int mass;
        int cost;
        int[][] ground;
        int[] tip = new int[2];
        boolean in;
        long[][] states;
    }

    final One[] piles = new One[6];
    int count;
    private One struck;
    private long[][] waves;

    void pile(int pieces, int spring, int mass, int cost) {
        One one = new One();
        one.spring = spring;
        one.mass = mass;
        one.cost = cost;
        one.ground = new int[pieces][3];
        piles[count++] = one;
    }

    void changed(int pile) {
        piles[pile].states = null;
    }

    private static long[][] state(One one, int w) {
        long[][] rows = new long[one.ground.length][3];
        state(one, w, rows);
        return rows;
    }

    /** A state, into rows: for each piece its place, the ground's force at it, F above it. */
    private static void state(One one, int w, long[][] rows) {
        int n = one.ground.length;
        long place = w;
        long force = Math.max(0, Math.min(one.tip[1], (long) one.tip[0] * w));
        for (int i = n - 1; i >= 0; i--) {
            int[] g = one.ground[i];
            long holds = Math.max(-g[1], Math.min(g[1], g[0] * (place - g[2])));
            force += holds;
            rows[i][0] = place;
            rows[i][1] = holds;
            rows[i][2] = force;
            long whole = force / one.spring;
            if (force < 0 && whole * one.spring != force) {
                whole--;
            }
            place += whole;
        }
    }

    /** Head and load of every state, by w from -100000 on. */
    private static long[][] states(One one) {
        if (one.states == null) {
            one.states = new long[2][2 * FAR + 1];
            long[][] rows = new long[one.ground.length][3];
            for (int w = -FAR; w <= FAR; w++) {
                state(one, w, rows);
                one.states[0][w + FAR] = rows[0][0];
                one.states[1][w + FAR] = rows[0][2];
            }
        }
        return one.states;
    }

    private static int greatest(long[] row, long bound) {
        for (int w = FAR; w >= -FAR; w--) {
            if (row[w + FAR] <= bound) {
                return w;
            }
        }
        return NONE;
    }

    private static int lastUnder(One one, int load) {
        int w = greatest(states(one)[1], load);
        return w == FAR ? NONE : w;
    }

    long piece(int pile, int load, int piece, int what) {
        int w = lastUnder(piles[pile], load);
        return w == NONE ? NONE : state(piles[pile], w)[piece][what];
    }

    long under(int pile, int load) {
        return piece(pile, load, 0, 0);
    }

    long load(int pile, int settlement) {
        int w = greatest(states(piles[pile])[0], settlement);
        return w == NONE ? NONE : state(piles[pile], w)[0][2];
    }

    long hold(int pile) {
        long sum = 0;
        for (int[] g : piles[pile].ground) {
            sum += g[1] * 7L / 10;
        }
        return sum;
    }

    long cheapest(int load, int most) {
        int best = NONE;
        for (int i = count - 1; i >= 0; i--) {
            boolean fails = lastUnder(piles[i], load) == NONE;
            if (!fails && under(i, load) <= most && (best == NONE || piles[i].cost <= piles[best].cost)) {
                best = i;
            }
        }
        return best;
    }

    boolean empty() {
        for (int i = 0; i < count; i++) {
            if (piles[i].in) {
                return false;
            }
        }
        return true;
    }

    /** From the head's places up, one settlement after the other. */
    long group(int load) {
        int[] at = new int[count];
        int found = NONE;
        for (int s = 0; s <= 10000; s++) {
            long sum = 0;
            for (int i = 0; i < count; i++) {
                if (!piles[i].in) {
                    continue;
                }
                long[][] states = states(piles[i]);
                if (s == 0) {
                    at[i] = greatest(states[0], 0) + FAR;
                }
                while (at[i] + 1 <= 2 * FAR && states[0][at[i] + 1] <= s) {
                    at[i]++;
                }
                sum += states[1][at[i]];
            }
            if (sum <= load) {
                found = s;
            }
        }
        return found == 10000 ? NONE : found;
    }

    long share(int load, int pile) {
        long settlement = group(load);
        return settlement == NONE ? NONE : load(pile, (int) settlement);
    }

    private static long by(long factor, long places, long divisor) {
        return BigInteger.valueOf(factor).multiply(BigInteger.valueOf(places))
                .divide(BigInteger.valueOf(divisor)).longValueExact();
    }

    long blow(int pile, int hammer, int speed) {
        One one = piles[pile];
        int n = one.ground.length;
        struck = one;
        waves = new long[200][];
        long[] place = new long[n + 1];
        long[] speeds = new long[n + 1];
        speeds[n] = speed * 1000L;
        long deepest = 0;
        for (int round = 0; round < 200; round++) {
            long[] next = new long[n + 1];
            for (int i = 0; i <= n; i++) {
                long push = push(one, place, i);
                long gained = speeds[i] + by(1000, push, i == n ? hammer : one.mass);
                speeds[i] = Math.max(-1000000000L, Math.min(1000000000L, gained));
                next[i] = place[i] + speeds[i] / 1000;
            }
            place = next;
            waves[round] = next;
            deepest = Math.max(deepest, next[n - 1]);
        }
        long quake = one.tip[0] == 0 ? 0 : 1000L * one.tip[1] / one.tip[0];
        return Math.max(0, deepest - quake);
    }

    /** What pushes a piece, or the hammer, down, less what pushes it up. */
    private static long push(One one, long[] place, int i) {
        int n = one.ground.length;
        long cushion = Math.max(0, by(10, place[n] - place[0], 1));
        if (i == n) {
            return -cushion;
        }
        int[] g = one.ground[i];
        long down = i == 0 ? cushion : by(one.spring, place[i - 1] - place[i], 1000);
        long up = Math.max(-g[1], Math.min(g[1], by(g[0], place[i], 1000)));
        if (i == n - 1) {
            up += Math.max(0, Math.min(one.tip[1], by(one.tip[0], place[i], 1000)));
        } else {
            up += by(one.spring, place[i] - place[i + 1], 1000);
        }
        return down - up;
    }

    int struckPieces() {
        return struck == null ? 0 : struck.ground.length;
    }

    long wave(int round, int piece) {
        return waves[round][piece];
    }
}
