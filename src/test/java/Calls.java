/** Every call of the face that may refuse its numbers: how it is made, ordinary numbers for it, and their bounds. */
final class Calls {
    static final int PILES = 5;
    static final int PIECES = 3;
    static final int[] PILE = {0, PILES - 1};
    static final int[] PIECE = {0, PIECES - 1};
    static final int[] LOAD = {0, 10000000};

    interface Made {
        long answer(PileMoves moves, int[] numbers);
    }

    /** Each row of bounds tells the least and the greatest that a number may be on an object of fresh(). */
    record One(String name, Made made, int[] ordinary, int[][] bounds) {
        long answer(PileMoves moves, int[] numbers) {
            return made.answer(moves, numbers);
        }

        /** The ordinary numbers, but for one of them. */
        int[] with(int place, int number) {
            int[] numbers = ordinary.clone();
            numbers[place] = number;
            return numbers;
        }

        String told(int[] numbers) {
            return name + java.util.Arrays.toString(numbers);
        }
    }

    static final One[] ALL = {
        new One("pile", (m, n) -> m.pile(n[0], n[1], n[2], n[3]), new int[] {2, 5, 7, 9},
                new int[][] {{1, 12}, {1, 10000}, {1, 1000}, {0, 100000}}),
        new One("ground", Calls::ground, new int[] {1, 1, 5, 50},
                new int[][] {PILE, PIECE, {0, 1000}, {0, 100000}}),
        new One("sinks", (m, n) -> m.sinks(n[0], n[1], n[2]), new int[] {1, 1, 6},
                new int[][] {PILE, PIECE, {0, 10000}}),
        new One("tip", Calls::tip, new int[] {1, 5, 60}, new int[][] {PILE, {0, 1000}, {0, 1000000}}),
        new One("under", (m, n) -> m.under(n[0], n[1]), new int[] {1, 40}, new int[][] {PILE, LOAD}),
        new One("piece", (m, n) -> m.piece(n[0], n[1], n[2], n[3]), new int[] {1, 40, 1, 1},
                new int[][] {PILE, LOAD, PIECE, {0, 2}}),
        new One("load", (m, n) -> m.load(n[0], n[1]), new int[] {1, 4}, new int[][] {PILE, {-100000, 100000}}),
        new One("hold", (m, n) -> m.hold(n[0]), new int[] {1}, new int[][] {PILE}),
        new One("cheapest", (m, n) -> m.cheapest(n[0], n[1]), new int[] {40, 9}, new int[][] {LOAD, {0, 100000}}),
        new One("join true", (m, n) -> m.join(n[0], true) ? 1 : 0, new int[] {1}, new int[][] {PILE}),
        new One("join false", (m, n) -> m.join(n[0], false) ? 1 : 0, new int[] {1}, new int[][] {PILE}),
        new One("group", (m, n) -> m.group(n[0]), new int[] {40}, new int[][] {LOAD}),
        new One("share", (m, n) -> m.share(n[0], n[1]), new int[] {40, 1}, new int[][] {LOAD, PILE}),
        new One("blow", (m, n) -> m.blow(n[0], n[1], n[2]), new int[] {1, 20, 30},
                new int[][] {PILE, {1, 10000}, {1, 1000}}),
        new One("wave", (m, n) -> m.wave(n[0], n[1]), new int[] {7, 1}, new int[][] {{0, 199}, {0, PIECES}}),
    };

    private Calls() {
    }

    /** Five piles of three pieces, all in the group, each in ground of its own, and a blow to the third. */
    static PileMoves fresh() {
        PileMoves moves = new PileMoves();
        for (int pile = 0; pile < PILES; pile++) {
            moves.pile(PIECES, 4 + pile, 30 + pile, 500 - 70 * pile);
            for (int piece = 0; piece < PIECES; piece++) {
                moves.ground(pile, piece, 3 + pile + 2 * piece, 40 + 9 * pile + 5 * piece);
                moves.sinks(pile, piece, 2 * pile + piece);
            }
            moves.tip(pile, 6 + pile, 100 + 30 * pile);
            moves.join(pile, true);
        }
        moves.blow(2, 50, 60);
        return moves;
    }

    /** Numbers that lie outside: just so, and as far as they can. */
    static int[] outside(int[] bounds) {
        return new int[] {bounds[0] - 1, bounds[1] + 1, Integer.MIN_VALUE, Integer.MAX_VALUE};
    }

    private static long ground(PileMoves moves, int[] numbers) {
        moves.ground(numbers[0], numbers[1], numbers[2], numbers[3]);
        return 0;
    }

    private static long tip(PileMoves moves, int[] numbers) {
        moves.tip(numbers[0], numbers[1], numbers[2]);
        return 0;
    }
}
