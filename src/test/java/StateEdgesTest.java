/** The sentences of 'Terms' about forces and states, and promises 6 to 10, each at its edges. */
final class StateEdgesTest {
    private static final int NONE = PileMoves.NONE;

    public static void main(String[] args) {
        Expect expect = new Expect("StateEdgesTest");
        groundsForce(expect);
        groundsForceOfNothing(expect);
        tipsForce(expect);
        roundedDownAboveNought(expect);
        roundedDownBelowNought(expect);
        leastAndGreatestSpring(expect);
        loadIsAboveTheHead(expect);
        underTheGreatestPlace(expect);
        underFailsAtTheFarthestPlace(expect);
        underWithTheHeadAboveNought(expect);
        thereIsAlwaysAState(expect);
        atTheFarthestPlaces(expect);
        pieceOfEachKind(expect);
        holdRoundedDown(expect);
        holdAsItIsTold(expect);
        cheapestCosts(expect);
        cheapestNotFurther(expect);
        cheapestOfSix(expect);
        expect.end();
    }

    private static PileMoves onePiece(int stiff, int most, int sinks) {
        PileMoves moves = new PileMoves();
        moves.pile(1, 1, 1, 0);
        moves.ground(0, 0, stiff, most);
        moves.sinks(0, 0, sinks);
        return moves;
    }

    private static void forces(Expect expect, String what, PileMoves moves, int[][] dues) {
        for (int[] due : dues) {
            expect.same(what + " at " + due[0], due[1], moves.load(0, due[0]));
        }
    }

    /** "STIFF times (u less SINKS), MOST at most, minus MOST at least." */
    private static void groundsForce(Expect expect) {
        forces(expect, "7 a place from 10 on, 20 at most", onePiece(7, 20, 10), new int[][] {
            {10, 0}, {11, 7}, {12, 14}, {13, 20}, {14, 20}, {100000, 20},
            {9, -7}, {8, -14}, {7, -20}, {6, -20}, {0, -20}, {-100000, -20}});
        forces(expect, "just MOST", onePiece(7, 21, 10), new int[][] {{13, 21}, {14, 21}, {7, -21}, {6, -21}});
        forces(expect, "one less than MOST", onePiece(7, 22, 10), new int[][] {{13, 21}, {14, 22}, {7, -21}, {6, -22}});
        forces(expect, "the greatest ground", onePiece(1000, 100000, 10000), new int[][] {
            {10100, 100000}, {10099, 99000}, {10000, 0}, {9999, -1000}, {9900, -100000}, {9901, -99000},
            {100000, 100000}, {-100000, -100000}});
        forces(expect, "the softest ground", onePiece(1, 100000, 0), new int[][] {
            {99999, 99999}, {100000, 100000}, {-99999, -99999}, {-100000, -100000}});
    }

    private static void groundsForceOfNothing(Expect expect) {
        int[][] none = {{-100000, 0}, {-1, 0}, {0, 0}, {1, 0}, {100000, 0}};
        forces(expect, "no STIFF", onePiece(0, 100000, 5), none);
        forces(expect, "no MOST", onePiece(1000, 0, 5), none);
        forces(expect, "neither", onePiece(0, 0, 5), none);
    }

    /** "STIFF times w, MOST at most, 0 at least." */
    private static void tipsForce(Expect expect) {
        PileMoves moves = onePiece(0, 0, 50);
        moves.tip(0, 3, 30);
        forces(expect, "the tip", moves, new int[][] {
            {-100000, 0}, {-1, 0}, {0, 0}, {1, 3}, {9, 27}, {10, 30}, {11, 30}, {100000, 30}});
        moves.tip(0, 3, 29);
        forces(expect, "the tip cut", moves, new int[][] {{9, 27}, {10, 29}, {11, 29}});
        moves.tip(0, 1000, 1000000);
        forces(expect, "the greatest tip", moves, new int[][] {
            {-1, 0}, {999, 999000}, {1000, 1000000}, {1001, 1000000}, {100000, 1000000}});
        moves.tip(0, 0, 1000000);
        forces(expect, "a tip without STIFF", moves, new int[][] {{-9, 0}, {0, 0}, {100000, 0}});
        moves.tip(0, 1000, 0);
        forces(expect, "a tip without MOST", moves, new int[][] {{-9, 0}, {0, 0}, {100000, 0}});
        moves.pile(2, 10000, 1, 0);
        moves.tip(1, 1, 9000);
        // The tip goes by the last piece's place, not by the head's: F stays below SPRING, so they are level.
        expect.same("the tip below the last piece", 8000, moves.load(1, 8000));
    }

    /** "F by SPRING, rounded down, further down than this one": F 1 a place, SPRING 7. */
    private static void roundedDownAboveNought(Expect expect) {
        PileMoves moves = new PileMoves();
        moves.pile(2, 7, 1, 0);
        moves.tip(0, 1, 1000);
        int[][] dues = {{0, 0}, {6, 6}, {7, 8}, {8, 9}, {13, 14}, {14, 16}, {20, 22}, {21, 24}};
        for (int[] due : dues) {
            expect.same("the head under " + due[0], due[1], moves.under(0, due[0]));
        }
    }

    /** "To the next whole number not greater": the ground holds the last piece back by 1 a place below 100. */
    private static void roundedDownBelowNought(Expect expect) {
        PileMoves moves = new PileMoves();
        moves.pile(2, 7, 1, 0);
        moves.ground(0, 1, 1, 1000);
        moves.sinks(0, 1, 100);
        // Last piece, F, head: 99 -1 98; 98 -2 97; 94 -6 93; 93 -7 92; 92 -8 90; 91 -9 89; 86 -14 84; 85 -15 82.
        int[][] dues = {
            {100, 0}, {99, -1}, {98, -1}, {97, -2}, {93, -6}, {92, -7}, {91, -8}, {90, -8}, {89, -9},
            {84, -14}, {83, -15}, {82, -15}};
        forces(expect, "the head held back", moves, dues);
    }

    private static void leastAndGreatestSpring(Expect expect) {
        PileMoves moves = new PileMoves();
        moves.pile(2, 1, 1, 0);
        moves.pile(2, 10000, 1, 0);
        moves.tip(0, 1, 1000000);
        moves.tip(1, 1, 1000000);
        expect.same("SPRING 1", 10, moves.under(0, 5));
        expect.same("SPRING 10000, just before it gives", 9999, moves.under(1, 9999));
        expect.same("SPRING 10000, just as it gives", 10001, moves.under(1, 10000));
        expect.same("AT the place that is left out", 9999, moves.load(1, 10000));
    }

    /** "What F is above piece 0 is THE LOAD": with the ground at piece 0, too. */
    private static void loadIsAboveTheHead(Expect expect) {
        PileMoves moves = new PileMoves();
        moves.pile(2, 10, 1, 0);
        moves.ground(0, 0, 2, 100);
        moves.ground(0, 1, 3, 100);
        // Last piece at 4: F 12, head at 5, held by 10: 22.
        expect.same("the load", 22, moves.load(0, 5));
        expect.same("F above the last piece", 12, moves.piece(0, 22, 1, 2));
        expect.same("F above the head", 22, moves.piece(0, 22, 0, 2));
        expect.same("under one less", 3, moves.under(0, 21));
    }

    /** "The greatest w whose load is not above P": where the load stands still for some places, the last of them. */
    private static void underTheGreatestPlace(Expect expect) {
        PileMoves moves = new PileMoves();
        moves.pile(2, 100, 1, 0);
        moves.ground(0, 0, 10, 20);
        moves.ground(0, 1, 10, 20);
        moves.sinks(0, 1, 50);
        // Both have given way between 2 and 48: -20 below, 20 above, the head one place up of the last piece.
        expect.same("the last place of load 0", 47, moves.under(0, 0));
        expect.same("and its last piece", 48, moves.piece(0, 0, 1, 0));
        expect.same("one less than the next load", 47, moves.under(0, 9));
        expect.same("just the next load", 48, moves.under(0, 10));
        expect.same("AT a place between them", 0, moves.load(0, 30));
        expect.same("AT the last of them", 0, moves.load(0, 47));
    }

    /** "It FAILS if w would be 100000." */
    private static void underFailsAtTheFarthestPlace(Expect expect) {
        PileMoves moves = onePiece(1, 100000, 0);
        expect.same("w 99998", 99998, moves.under(0, 99998));
        expect.same("w 99999", 99999, moves.under(0, 99999));
        expect.same("w would be 100000", NONE, moves.under(0, 100000));
        expect.same("w would be 100000, far above its load", NONE, moves.under(0, 10000000));
        expect.same("piece fails likewise", NONE, moves.piece(0, 100000, 0, 0));
        expect.same("piece bears likewise", 99999, moves.piece(0, 99999, 0, 2));
        expect.same("cheapest leaves it out", NONE, moves.cheapest(100000, 100000));
        expect.same("AT 100000 there is a state all the same", 100000, moves.load(0, 100000));
        moves.pile(2, 1, 1, 0);
        moves.tip(1, 10, 1000000);
        // The head may be far below 100000 while the last piece is not: w 90000, F 900000.
        expect.same("the head beyond 100000 is no failing", 990000, moves.under(1, 900000));
        expect.same("nor just before the last place", 1099989, moves.under(1, 999999));
        expect.same("but all of the tip is", NONE, moves.under(1, 1000000));
    }

    /** A head that the ground holds far up: a place below 0 is an answer as any other. */
    private static void underWithTheHeadAboveNought(Expect expect) {
        PileMoves moves = heldUp();
        expect.same("under nothing", -1000, moves.under(0, 0));
        expect.same("under one less than the next load", -1000, moves.under(0, 999));
        expect.same("under the next load", 1001, moves.under(0, 1000));
        expect.same("the last piece is at 0", 0, moves.piece(0, 0, 1, 0));
        expect.same("the load of the state", -1000, moves.piece(0, 999, 0, 2));
        expect.same("not further down than 0", 0, moves.cheapest(0, 0));
        expect.same("further down than 1000", NONE, moves.cheapest(1000, 1000));
        expect.same("not further down than 1001", 0, moves.cheapest(1000, 1001));
        forces(expect, "the head held up", moves, new int[][] {
            {1001, 1000}, {1000, -1000}, {0, -1000}, {-1000, -1000}, {-1001, -1000}});
    }

    /** SPRING 1; last piece at 0: F -1000, head at -1000; at 1: F 1000, head at 1001; at 2: F 3000, head at 3002. */
    static PileMoves heldUp() {
        PileMoves moves = new PileMoves();
        moves.pile(2, 1, 1, 0);
        moves.ground(0, 1, 1000, 1000);
        moves.sinks(0, 1, 1);
        moves.tip(0, 1000, 100000);
        return moves;
    }

    /** With the ground pulling as it can, a state UNDER 0 and a state AT -100000 are still there. */
    private static void thereIsAlwaysAState(Expect expect) {
        PileMoves moves = new PileMoves();
        moves.pile(12, 10000, 1, 0);
        for (int i = 0; i < 12; i++) {
            moves.ground(0, i, 1000, 100000);
            moves.sinks(0, i, 10000);
        }
        expect.same("UNDER 0: all as far down as the ground", 10000, moves.under(0, 0));
        expect.same("AT -100000: all the ground pulls", -1200000, moves.load(0, -100000));
        expect.same("AT 0: all the ground pulls", -1200000, moves.load(0, 0));
        moves.pile(1, 1, 1, 0);
        moves.ground(1, 0, 1000, 100000);
        moves.sinks(1, 0, 10000);
        moves.tip(1, 1000, 1000000);
        expect.same("one piece AT -100000", -100000, moves.load(1, -100000));
    }

    /** "The greatest w of -100000 .. 100000 in which piece 0 is not further down than s." */
    private static void atTheFarthestPlaces(Expect expect) {
        PileMoves moves = onePiece(1, 100000, 10000);
        expect.same("s 100000", 90000, moves.load(0, 100000));
        expect.same("s 99999", 89999, moves.load(0, 99999));
        expect.same("s -90000", -100000, moves.load(0, -90000));
        expect.same("s -89999", -99999, moves.load(0, -89999));
        expect.same("s -100000", -100000, moves.load(0, -100000));
        moves.pile(2, 1, 1, 0);
        moves.tip(1, 1, 1000000);
        // The head is twice as far down: w 50000 is the greatest.
        expect.same("s 100000 is not w 100000", 50000, moves.load(1, 100000));
        expect.same("s 99999", 49999, moves.load(1, 99999));
    }

    /** Promise 7: what 0, 1 and 2, of the first piece and the last, with one piece alone, too. */
    private static void pieceOfEachKind(Expect expect) {
        PileMoves moves = onePiece(4, 100, 2);
        moves.tip(0, 3, 100);
        // At 5: the tip 15, the ground 12.
        expect.same("the place", 5, moves.piece(0, 33, 0, 0));
        expect.same("the ground's force", 12, moves.piece(0, 33, 0, 1));
        expect.same("F above it", 27, moves.piece(0, 33, 0, 2));
        expect.same("just the next state's load", 34, moves.piece(0, 34, 0, 2));
        for (int what = 0; what <= 2; what++) {
            expect.same("it FAILS", NONE, moves.piece(0, 200, 0, what));
        }
        // At 33: the tip 99, the ground all of its 100.
        expect.same("it nearly FAILS", 199, moves.piece(0, 199, 0, 2));
    }

    /** "7 tenths of its MOST (rounded down): THE HOLD is the sum of that over all pieces." */
    private static void holdRoundedDown(Expect expect) {
        int[][] dues = {{0, 0}, {1, 0}, {2, 1}, {3, 2}, {4, 2}, {5, 3}, {9, 6}, {10, 7}, {99999, 69999}, {100000, 70000}};
        PileMoves moves = new PileMoves();
        moves.pile(1, 1, 1, 0);
        moves.pile(2, 1, 1, 0);
        for (int[] due : dues) {
            moves.ground(0, 0, 1, due[0]);
            expect.same("7 tenths of " + due[0], due[1], moves.hold(0));
            moves.ground(1, 0, 1, due[0]);
            moves.ground(1, 1, 1, due[0]);
            expect.same("7 tenths of " + due[0] + ", each for itself", 2 * due[1], moves.hold(1));
        }
    }

    /** "Pulled, it has no tip", and neither STIFF nor SINKS are told to matter. */
    private static void holdAsItIsTold(Expect expect) {
        PileMoves moves = new PileMoves();
        moves.pile(12, 1, 1, 0);
        expect.same("no ground", 0, moves.hold(0));
        moves.tip(0, 1000, 1000000);
        expect.same("no ground, the greatest tip", 0, moves.hold(0));
        for (int i = 0; i < 12; i++) {
            moves.ground(0, i, 0, 100000);
            moves.sinks(0, i, 10000);
            expect.same("pieces that hold", 70000 * (i + 1), moves.hold(0));
        }
    }

    /** "The one of the least COST, of several the first." */
    private static void cheapestCosts(Expect expect) {
        PileMoves moves = new PileMoves();
        expect.same("no pile at all", NONE, moves.cheapest(0, 100000));
        int[] costs = {100000, 99999, 1, 1, 0, 0};
        int[] firsts = {0, 1, 2, 2, 4, 4};
        for (int i = 0; i < costs.length; i++) {
            moves.pile(1, 1, 1, costs[i]);
            moves.ground(i, 0, 10, 100);
            expect.same("the cheapest of " + (i + 1), firsts[i], moves.cheapest(50, 5));
        }
        moves.ground(4, 0, 9, 100);
        expect.same("the first of the least is just as far down", 4, moves.cheapest(50, 5));
        moves.ground(4, 0, 8, 100);
        expect.same("the first of the least is further down", 5, moves.cheapest(50, 5));
        moves.ground(5, 0, 10, 50);
        expect.same("the second of the least FAILS", 2, moves.cheapest(50, 5));
    }

    /** "Not further down than so much (0 .. 100000), and do not FAIL." */
    private static void cheapestNotFurther(Expect expect) {
        PileMoves moves = onePiece(1, 100000, 0);
        expect.same("just so far down", 0, moves.cheapest(7, 7));
        expect.same("one further", NONE, moves.cheapest(8, 7));
        expect.same("0 down", 0, moves.cheapest(0, 0));
        expect.same("1 down", NONE, moves.cheapest(1, 0));
        expect.same("the farthest that bears", 0, moves.cheapest(99999, 99999));
        expect.same("one further than 99998", NONE, moves.cheapest(99999, 99998));
        expect.same("FAILS", NONE, moves.cheapest(100000, 100000));
        moves.pile(2, 1, 1, 0);
        moves.tip(1, 1, 1000000);
        moves.ground(0, 0, 0, 0);
        expect.same("the head just 100000 down", 1, moves.cheapest(50000, 100000));
        expect.same("the head 100002 down", NONE, moves.cheapest(50001, 100000));
    }

    private static void cheapestOfSix(Expect expect) {
        for (int good = 0; good < 6; good++) {
            PileMoves moves = new PileMoves();
            for (int i = 0; i < 6; i++) {
                moves.pile(1, 1, 1, i == good ? 100000 : 0);
            }
            expect.same("all FAIL", NONE, moves.cheapest(0, 100000));
            moves.ground(good, 0, 1, 1);
            expect.same("the only one that does not FAIL", good, moves.cheapest(0, 0));
        }
    }
}
