import java.util.Arrays;

/**
 * Piles in the ground, in whole numbers: how far one goes down under a load, what it bears and holds,
 * groups under a cap, blows of a hammer, the cheapest pile that does.
 */
public final class PileMoves {
    /** There is none. */
    public static final int NONE = -1000000;

    private static final int MOST_PILES = 6;
    private static final int MOST_PIECES = 12;
    private static final int MOST_SPRING = 10000;
    private static final int MOST_MASS = 1000;
    private static final int MOST_COST = 100000;
    private static final int MOST_STIFF = 1000;
    private static final int MOST_AT_SIDE = 100000;
    private static final int MOST_AT_TIP = 1000000;
    private static final int MOST_SINKS = 10000;
    private static final int MOST_LOAD = 10000000;
    private static final int LAST_PLACE = 100000;
    private static final int LAST_GROUP_PLACE = 10000;
    private static final int MOST_HAMMER = 10000;
    private static final int MOST_BLOW_SPEED = 1000;
    private static final int ROUNDS = 200;
    private static final int MOST_SPEED = 1000000000;

    /** Its halves down to 1 add up to more than there are places from -LAST_PLACE to LAST_PLACE. */
    private static final int FIRST_PLACE_STEP = 1 << 17;
    /** Its halves down to 1 add up to more than LAST_GROUP_PLACE. */
    private static final int FIRST_GROUP_STEP = 1 << 13;
    /** More than any load that a call may name. */
    private static final long ABOVE_ALL_LOADS = 1000000000000L;

    private final Pile[] piles;
    private final State state;
    private final Blow latestBlow;
    private int pileCount;

    public PileMoves() {
        piles = new Pile[MOST_PILES];
        state = new State();
        latestBlow = new Blow();
        pileCount = 0;
    }

    public int pile(int pieces, int spring, int mass, int cost)
            throws IllegalArgumentException, IllegalStateException {
        checkWithin(pieces, 1, MOST_PIECES);
        checkWithin(spring, 1, MOST_SPRING);
        checkWithin(mass, 1, MOST_MASS);
        checkWithin(cost, 0, MOST_COST);
        if (pileCount < 0 || pileCount >= piles.length) {
            throw new IllegalStateException("there are as many piles as there may be");
        }
        int number = pileCount;
        piles[number] = new Pile(pieces, spring, mass, cost);
        pileCount++;
        return number;
    }

    public void ground(int pile, int piece, int stiff, int most) throws IllegalArgumentException {
        Pile chosen = pileOf(pile);
        checkPiece(chosen, piece);
        checkWithin(stiff, 0, MOST_STIFF);
        checkWithin(most, 0, MOST_AT_SIDE);
        chosen.stiff[piece] = stiff;
        chosen.most[piece] = most;
    }

    public int sinks(int pile, int piece, int v) throws IllegalArgumentException {
        Pile chosen = pileOf(pile);
        checkPiece(chosen, piece);
        checkWithin(v, 0, MOST_SINKS);
        int before = chosen.sunk[piece];
        chosen.sunk[piece] = v;
        return before;
    }

    public void tip(int pile, int stiff, int most) throws IllegalArgumentException {
        Pile chosen = pileOf(pile);
        checkWithin(stiff, 0, MOST_STIFF);
        checkWithin(most, 0, MOST_AT_TIP);
        chosen.tipStiff = stiff;
        chosen.tipMost = most;
    }

    // ---- states

    public int under(int pile, int load) throws IllegalArgumentException {
        Pile chosen = pileOf(pile);
        checkLoad(load);
        return state.findUnder(chosen, load) ? state.place : NONE;
    }

    public int piece(int pile, int load, int piece, int what) throws IllegalArgumentException {
        Pile chosen = pileOf(pile);
        checkLoad(load);
        checkPiece(chosen, piece);
        checkWithin(what, 0, 2);
        if (!state.findUnder(chosen, load)) {
            return NONE;
        }
        state.climb(chosen, piece);
        if (what == 0) {
            return state.place;
        }
        return what == 1 ? state.groundForce : state.forceAbove;
    }

    public int load(int pile, int settlement) throws IllegalArgumentException {
        Pile chosen = pileOf(pile);
        checkWithin(settlement, -LAST_PLACE, LAST_PLACE);
        return state.findAt(chosen, settlement) ? state.forceAbove : NONE;
    }

    public int hold(int pile) throws IllegalArgumentException {
        Pile chosen = pileOf(pile);
        int sum = 0;
        for (int most : chosen.most) {
            sum += 7 * most / 10;
        }
        return sum;
    }

    public int cheapest(int load, int most) throws IllegalArgumentException {
        checkLoad(load);
        checkWithin(most, 0, LAST_PLACE);
        int best = NONE;
        int leastCost = 0;
        for (int i = 0; i < piles.length; i++) {
            Pile each = piles[i];
            if (each == null || (best != NONE && each.cost >= leastCost)) {
                continue;
            }
            if (state.findUnder(each, load) && state.place <= most) {
                best = i;
                leastCost = each.cost;
            }
        }
        return best;
    }

    // ---- groups

    public boolean join(int pile, boolean is) throws IllegalArgumentException {
        Pile chosen = pileOf(pile);
        boolean before = chosen.joined;
        chosen.joined = is;
        return before;
    }

    public int group(int load) throws IllegalArgumentException, IllegalStateException {
        checkLoad(load);
        checkGroupNotEmpty();
        return groupSettlement(load);
    }

    public int share(int load, int pile) throws IllegalArgumentException, IllegalStateException {
        checkLoad(load);
        Pile chosen = pileOf(pile);
        checkGroupNotEmpty();
        if (!chosen.joined) {
            throw new IllegalArgumentException("the pile is not in the group");
        }
        int settlement = groupSettlement(load);
        if (settlement == NONE || !state.findAt(chosen, settlement)) {
            return NONE;
        }
        return state.forceAbove;
    }

    // ---- blows

    public int blow(int pile, int hammer, int speed) throws IllegalArgumentException {
        Pile chosen = pileOf(pile);
        checkWithin(hammer, 1, MOST_HAMMER);
        checkWithin(speed, 1, MOST_BLOW_SPEED);
        latestBlow.strike(chosen, hammer, speed);
        return latestBlow.settled(chosen);
    }

    public int wave(int round, int piece) throws IllegalStateException, IllegalArgumentException {
        if (!latestBlow.happened()) {
            throw new IllegalStateException("there was no blow");
        }
        checkWithin(round, 0, ROUNDS - 1);
        checkWithin(piece, 0, latestBlow.pieces);
        return latestBlow.behindRound(round, piece);
    }

    // ---- what the calls lean on

    private static void checkWithin(int number, int least, int most) {
        if (number < least || number > most) {
            throw new IllegalArgumentException("a number is out of its bounds");
        }
    }

    private static void checkLoad(int load) {
        checkWithin(load, 0, MOST_LOAD);
    }

    private static void checkPiece(Pile pile, int piece) {
        checkWithin(piece, 0, pile.pieces() - 1);
    }

    private Pile pileOf(int number) {
        if (number < 0 || number >= piles.length || piles[number] == null) {
            throw new IllegalArgumentException("there is no such pile");
        }
        return piles[number];
    }

    private void checkGroupNotEmpty() {
        for (Pile each : piles) {
            if (each != null && each.joined) {
                return;
            }
        }
        throw new IllegalStateException("the group is empty");
    }

    /** The group's settlement under a load; NONE without one. */
    private int groupSettlement(int load) {
        if (groupLoad(0) > load || groupLoad(LAST_GROUP_PLACE) <= load) {
            return NONE;
        }
        int settlement = 0;
        for (int step = FIRST_GROUP_STEP; step > 0; step /= 2) {
            int further = settlement + step;
            if (further < LAST_GROUP_PLACE && groupLoad(further) <= load) {
                settlement = further;
            }
        }
        return settlement;
    }

    /** The loads of the group's piles at a settlement, together; above all loads if one has no state there. */
    private long groupLoad(int settlement) {
        long sum = 0;
        for (Pile each : piles) {
            if (each == null || !each.joined) {
                continue;
            }
            if (!state.findAt(each, settlement)) {
                return ABOVE_ALL_LOADS;
            }
            sum += state.forceAbove;
        }
        return sum;
    }

    private static int clamp(long value, int least, int most) {
        if (value < least) {
            return least;
        }
        return value > most ? most : (int) value;
    }

    /** A pile with the ground round it. */
    private static final class Pile {
        final int spring;
        final int mass;
        final int cost;
        /** Three rows of the ground, each with a number for each piece. */
        final int[] stiff;
        final int[] most;
        final int[] sunk;
        int tipStiff;
        int tipMost;
        boolean joined;

        Pile(int pieces, int spring, int mass, int cost) {
            this.spring = spring;
            this.mass = mass;
            this.cost = cost;
            stiff = new int[pieces];
            most = new int[pieces];
            sunk = new int[pieces];
        }

        int pieces() {
            return stiff.length;
        }

        /** The quake of the tip: so far the last piece springs back. */
        long quake() {
            return tipStiff == 0 ? 0 : 1000L * tipMost / tipStiff;
        }
    }

    /**
     * One state of a pile, told by the place of its last piece and looked at from there up to one piece.
     * There is only one such object, made once: the room for objects is narrow, and the searches are many.
     */
    private static final class State {
        private int last;
        /** Of the piece that was climbed to: its place, the ground's force at it, the force above it. */
        int place;
        int groundForce;
        int forceAbove;

        /** To the head in the state under a load: false when the pile fails. */
        boolean findUnder(Pile pile, int load) {
            return find(pile, load, true) && last < LAST_PLACE;
        }

        /** To the head in the state at a settlement: false if there is none. */
        boolean findAt(Pile pile, int settlement) {
            return find(pile, settlement, false);
        }

        /** To a piece of the pile, in the state found last. */
        void climb(Pile pile, int piece) {
            int lowest = pile.pieces() - 1;
            place = last;
            forceAbove = clamp((long) pile.tipStiff * last, 0, pile.tipMost);
            for (int i = lowest; i >= piece && i >= 0; i--) {
                if (i < lowest && pile.spring > 0) {
                    place += Math.floorDiv(forceAbove, pile.spring);
                }
                long reach = (long) pile.stiff[i] * (place - pile.sunk[i]);
                groundForce = clamp(reach, -pile.most[i], pile.most[i]);
                forceAbove += groundForce;
            }
        }

        /** The greatest last place at which the load, or else the head's place, is not above a bound. */
        private boolean find(Pile pile, int bound, boolean byLoad) {
            int found = -LAST_PLACE - 1;
            for (int step = FIRST_PLACE_STEP; step > 0; step /= 2) {
                last = found + step;
                if (last > LAST_PLACE) {
                    continue;
                }
                climb(pile, 0);
                if ((byLoad ? forceAbove : place) <= bound) {
                    found = last;
                }
            }
            last = found;
            climb(pile, 0);
            return found >= -LAST_PLACE;
        }
    }

    /** The latest blow, round by round. Its rows are made once and used by every blow. */
    private static final class Blow {
        private static final int ROW = MOST_PIECES + 1;

        /** Of the latest blow's pile; 0 before the first blow. In each row the hammer stands behind them. */
        int pieces;
        private int deepest;
        private final int[] places;
        private final int[] speeds;
        /** What pushes each down less what pushes it up. */
        private final long[] pushes;
        /** A row of places for each round. */
        private final int[] waves;

        Blow() {
            places = new int[ROW];
            speeds = new int[ROW];
            pushes = new long[ROW];
            waves = new int[ROUNDS * ROW];
        }

        boolean happened() {
            return pieces > 0;
        }

        int behindRound(int round, int piece) {
            int index = round * ROW + piece;
            return index < 0 || index >= waves.length ? NONE : waves[index];
        }

        /** The set: how far down the last piece came at most, less its quake. */
        int settled(Pile pile) {
            return (int) Math.max(0, deepest - pile.quake());
        }

        void strike(Pile pile, int hammer, int speed) {
            int count = pile.pieces();
            // No pile has so few or so many; the rows are looked at before they are used.
            if (count < 1 || count >= ROW) {
                return;
            }
            pieces = count;
            deepest = 0;
            Arrays.fill(places, 0);
            Arrays.fill(speeds, 0);
            speeds[pieces] = 1000 * speed;
            for (int round = 0; round < ROUNDS; round++) {
                gatherPushes(pile);
                for (int i = 0; i <= pieces; i++) {
                    move(i, i < pieces ? pile.mass : hammer);
                }
                deepest = Math.max(deepest, places[pieces - 1]);
                System.arraycopy(places, 0, waves, round * ROW, ROW);
            }
        }

        private void gatherPushes(Pile pile) {
            Arrays.fill(pushes, 0);
            press(pieces, 0, Math.max(0, 10L * (places[pieces] - places[0])));
            for (int i = 0; i + 1 < pieces; i++) {
                press(i, i + 1, (long) pile.spring * (places[i] - places[i + 1]) / 1000);
            }
            for (int i = 0; i < pieces; i++) {
                pushes[i] -= clamp((long) pile.stiff[i] * places[i] / 1000, -pile.most[i], pile.most[i]);
            }
            int lowest = pieces - 1;
            pushes[lowest] -= clamp((long) pile.tipStiff * places[lowest] / 1000, 0, pile.tipMost);
        }

        /** A force between two: it pushes the lower down and the upper up. */
        private void press(int upper, int lower, long force) {
            pushes[upper] -= force;
            pushes[lower] += force;
        }

        private void move(int i, int mass) {
            long gain = mass == 0 ? 0 : 1000 * pushes[i] / mass;
            speeds[i] = clamp(speeds[i] + gain, -MOST_SPEED, MOST_SPEED);
            places[i] += speeds[i] / 1000;
        }
    }
}
