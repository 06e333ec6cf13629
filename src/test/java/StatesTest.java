/** Promises 6 to 10: under, piece, load, hold, cheapest. */
final class StatesTest {
    private static final int NONE = PileMoves.NONE;
    private static final int FAR = Integer.MAX_VALUE;
    private static final int BACK = Integer.MIN_VALUE;

    public static void main(String[] args) {
        Expect expect = new Expect("StatesTest");
        underOnePiece(expect);
        underSeveralPieces(expect);
        underWrong(expect);
        piece(expect);
        pieceWrong(expect);
        roundedDownBelowNought(expect);
        load(expect);
        farthestPlaces(expect);
        hold(expect);
        cheapest(expect);
        cheapestWrong(expect);
        expect.end();
    }

    /** Promise 6. */
    private static void underOnePiece(Expect expect) {
        PileMoves moves = new PileMoves();
        moves.pile(1, 10, 1, 0);
        moves.ground(0, 0, 10, 100);
        expect.same("under nothing", 0, moves.under(0, 0));
        expect.same("under 9", 0, moves.under(0, 9));
        expect.same("under 10", 1, moves.under(0, 10));
        expect.same("under 99", 9, moves.under(0, 99));
        expect.same("under all that the ground has", NONE, moves.under(0, 100));
        expect.same("under the greatest load", NONE, moves.under(0, 10000000));
        moves.ground(0, 0, 1, 100000);
        expect.same("the last place that bears", 99999, moves.under(0, 99999));
        expect.same("w would be 100000", NONE, moves.under(0, 100000));
    }

    private static void underSeveralPieces(Expect expect) {
        PileMoves moves = new PileMoves();
        moves.pile(3, 7, 1, 0);
        moves.tip(0, 5, 1000);
        moves.ground(0, 1, 3, 40);
        // w 4: the tip bears 20, so piece 1 is at 4 + 2 = 6 and held by 18; 38 above it, so piece 0 is at 6 + 5.
        expect.same("under the load of a state", 11, moves.under(0, 38));
        expect.same("up to the next state", 11, moves.under(0, 48));
        // w 5: the tip 25, piece 1 at 8, held by 24; 49 above it.
        expect.same("the next state", 15, moves.under(0, 49));
        expect.same("the tip and the ground at their most", NONE, moves.under(0, 1040));
        // w 199: the tip 995, piece 1 at 341, held by 40; 1035 above it, piece 0 at 341 + 147.
        expect.same("nearly at their most", 488, moves.under(0, 1039));
    }

    private static void underWrong(Expect expect) {
        PileMoves moves = new PileMoves();
        moves.pile(1, 1, 1, 0);
        int[][] wrong = {{-1, 0}, {1, 0}, {6, 0}, {FAR, 0}, {BACK, 0}, {0, -1}, {0, 10000001}, {0, FAR}, {0, BACK}};
        for (int[] w : wrong) {
            expect.illegalArgument("under out of its bounds", () -> moves.under(w[0], w[1]));
        }
    }

    /** Promise 7. */
    private static void piece(Expect expect) {
        PileMoves moves = new PileMoves();
        moves.pile(3, 7, 1, 0);
        moves.tip(0, 5, 1000);
        moves.ground(0, 1, 3, 40);
        moves.ground(0, 0, 1, 6);
        moves.sinks(0, 0, 20);
        // w 4 as before, but piece 0 at 11 is pushed down by 6 of the ground that sinks: the load is 32.
        int load = 32;
        expect.same("the place of piece 2", 4, moves.piece(0, load, 2, 0));
        expect.same("the place of piece 1", 6, moves.piece(0, load, 1, 0));
        expect.same("the place of piece 0", 11, moves.piece(0, load, 0, 0));
        expect.same("the ground at piece 2", 0, moves.piece(0, load, 2, 1));
        expect.same("the ground at piece 1", 18, moves.piece(0, load, 1, 1));
        expect.same("the ground at piece 0", -6, moves.piece(0, load, 0, 1));
        expect.same("F above piece 2", 20, moves.piece(0, load, 2, 2));
        expect.same("F above piece 1", 38, moves.piece(0, load, 1, 2));
        expect.same("F above piece 0", 32, moves.piece(0, load, 0, 2));
        expect.same("the state's load may be less than the load", 32, moves.piece(0, load + 1, 0, 2));
        for (int what = 0; what < 3; what++) {
            expect.same("it fails", NONE, moves.piece(0, 10000000, 1, what));
        }
    }

    private static void pieceWrong(Expect expect) {
        PileMoves moves = new PileMoves();
        moves.pile(2, 1, 1, 0);
        int[][] wrong = {
            {-1, 0, 0, 0}, {1, 0, 0, 0}, {FAR, 0, 0, 0}, {0, -1, 0, 0}, {0, 10000001, 0, 0}, {0, BACK, 0, 0},
            {0, 0, -1, 0}, {0, 0, 2, 0}, {0, 0, FAR, 0}, {0, 0, BACK, 0},
            {0, 0, 0, -1}, {0, 0, 0, 3}, {0, 0, 0, FAR}, {0, 0, 0, BACK}};
        for (int[] w : wrong) {
            expect.illegalArgument("piece out of its bounds", () -> moves.piece(w[0], w[1], w[2], w[3]));
        }
        expect.same("within its bounds, but it fails", NONE, moves.piece(0, 0, 1, 2));
    }

    private static void roundedDownBelowNought(Expect expect) {
        PileMoves moves = new PileMoves();
        moves.pile(2, 7, 1, 0);
        moves.ground(0, 1, 2, 100);
        // w -5: F is -10 above piece 1, so piece 0 is two up from it, at -7; w -4: F is -8, piece 0 at -6.
        expect.same("at -7", -10, moves.load(0, -7));
        expect.same("at -6", -8, moves.load(0, -6));
        expect.same("at -1: w 0 would be 0", -2, moves.load(0, -2));
        moves.sinks(0, 1, 10);
        // w 9: F is -2 above piece 1, so piece 0 is at 8.
        expect.same("at 8", -2, moves.load(0, 8));
        expect.same("at 9: no other than at 8", -2, moves.load(0, 9));
        expect.same("at 10", 0, moves.load(0, 10));
    }

    /** Promise 8. */
    private static void load(Expect expect) {
        PileMoves moves = new PileMoves();
        moves.pile(2, 7, 1, 0);
        moves.tip(0, 3, 30);
        // w 4: the tip 12, piece 0 at 5; w 5: the tip 15, piece 0 at 7.
        expect.same("at 5", 12, moves.load(0, 5));
        expect.same("between two states", 12, moves.load(0, 6));
        expect.same("at 7", 15, moves.load(0, 7));
        expect.same("at 0", 0, moves.load(0, 0));
        int[][] wrong = {{-1, 0}, {1, 0}, {FAR, 0}, {BACK, 0}, {0, -100001}, {0, 100001}, {0, FAR}, {0, BACK}};
        for (int[] w : wrong) {
            expect.illegalArgument("load out of its bounds", () -> moves.load(w[0], w[1]));
        }
    }

    private static void farthestPlaces(Expect expect) {
        PileMoves moves = new PileMoves();
        moves.pile(1, 1, 1, 0);
        moves.ground(0, 0, 1, 100000);
        expect.same("the farthest down", 100000, moves.load(0, 100000));
        expect.same("the farthest up", -100000, moves.load(0, -100000));
        moves.pile(12, 1, 1, 0);
        for (int i = 0; i < 12; i++) {
            moves.ground(1, i, 1000, 100000);
        }
        moves.tip(1, 1000, 1000000);
        // w -1: 1000 up at the last piece, and from there all the ground at its most up: 1000 + 11 * 100000.
        expect.same("pulled far up", -1101000, moves.load(1, -100000));
        // w 999: 999000 below, 100000 more at each piece: 11 gaps of 999000 + 100000 * k, k 1 .. 11.
        expect.same("the farthest head", 999 + 11 * 999000 + 66 * 100000, moves.under(1, 2199999));
        expect.same("all of it at its most", NONE, moves.under(1, 2200000));
    }

    /** Promise 9. */
    private static void hold(Expect expect) {
        PileMoves moves = new PileMoves();
        moves.pile(3, 1, 1, 0);
        moves.tip(0, 1000, 1000000);
        expect.same("a tip holds nothing", 0, moves.hold(0));
        moves.ground(0, 0, 0, 9);
        moves.ground(0, 1, 5, 9);
        moves.ground(0, 2, 5, 9);
        moves.sinks(0, 2, 100);
        expect.same("each piece rounded down for itself", 18, moves.hold(0));
        moves.pile(12, 1, 1, 0);
        for (int i = 0; i < 12; i++) {
            moves.ground(1, i, 1, 100000);
        }
        expect.same("the greatest hold", 840000, moves.hold(1));
        for (int wrong : new int[] {-1, 2, 6, FAR, BACK}) {
            expect.illegalArgument("hold without a pile", () -> moves.hold(wrong));
        }
    }

    /** Promise 10. */
    private static void cheapest(Expect expect) {
        PileMoves moves = new PileMoves();
        int[] costs = {50, 30, 30, 20, 100000};
        int[] stiff = {10, 10, 20, 5, 1000};
        int[] most = {1000, 1000, 1000, 60, 100000};
        for (int i = 0; i < costs.length; i++) {
            moves.pile(1, 1, 1, costs[i]);
            moves.ground(i, 0, stiff[i], most[i]);
        }
        expect.same("the cheapest of all", 3, moves.cheapest(50, 10));
        expect.same("one not down so far, of several the first", 1, moves.cheapest(50, 9));
        expect.same("just so far down", 1, moves.cheapest(50, 5));
        expect.same("the stiffer one", 2, moves.cheapest(50, 4));
        expect.same("the dearest", 4, moves.cheapest(50, 1));
        expect.same("a cheaper one would fail", 1, moves.cheapest(60, 100000));
        expect.same("all but one would fail", 4, moves.cheapest(1000, 100000));
        expect.same("all fail", NONE, moves.cheapest(100000, 100000));
        expect.same("not so far down, and one of no place", 3, moves.cheapest(0, 0));
        expect.same("none so little", NONE, moves.cheapest(2000, 1));
        moves.pile(2, 1, 1, 0);
        expect.same("a pile without ground fails", 3, moves.cheapest(0, 100000));
        moves.ground(5, 0, 1, 1);
        expect.same("one for nothing", 5, moves.cheapest(0, 0));
    }

    private static void cheapestWrong(Expect expect) {
        PileMoves moves = new PileMoves();
        int[][] wrong = {{-1, 0}, {10000001, 0}, {FAR, 0}, {BACK, 0}, {0, -1}, {0, 100001}, {0, FAR}, {0, BACK}};
        for (int[] w : wrong) {
            expect.illegalArgument("cheapest out of its bounds", () -> moves.cheapest(w[0], w[1]));
        }
        expect.same("the greatest numbers", NONE, moves.cheapest(10000000, 100000));
    }
}
