/** The sentences of 'Terms' about blows, and promises 14 and 15, at their edges and worked out by hand. */
final class BlowEdgesTest {
    public static void main(String[] args) {
        Expect expect = new Expect("BlowEdgesTest");
        cushionNeverPulls(expect);
        cushionComesAgain(expect);
        springBothWays(expect);
        springOfLessThanOne(expect);
        groundBothWays(expect);
        groundAtItsMost(expect);
        groundDoesNotSink(expect);
        tipNeverPulls(expect);
        tipAtItsMost(expect);
        tipOfAFastPiece(expect);
        tipAndGroundTogether(expect);
        tipOfTheLastPieceAlone(expect);
        placesAsAtTheBeginning(expect);
        speedRoundedToNought(expect);
        hammersSpeedRoundedToNought(expect);
        speedsAtTheirBounds(expect);
        twoHundredRounds(expect);
        leastAndGreatestBlows(expect);
        setIsTheFarthest(expect);
        setLessItsQuake(expect);
        setIsNotLessThanNought(expect);
        setOfEachBlow(expect);
        waveOfTheLatestBlow(expect);
        expect.end();
    }

    /** A pile whose blow by a hammer of mass 1 with speed 1 pushes piece 0 to 10, and the hammer to -8, in round 1. */
    private static PileMoves pile(int pieces, int spring, int mass) {
        PileMoves moves = new PileMoves();
        moves.pile(pieces, spring, mass, 0);
        return moves;
    }

    /** The places of a piece behind round 0, 1, 2 .. */
    private static void track(Expect expect, String what, PileMoves moves, int piece, int... dues) {
        for (int round = 0; round < dues.length; round++) {
            expect.same(what + ": piece " + piece + " behind round " + round, dues[round], moves.wave(round, piece));
        }
    }

    /** "10 times (the hammer's place less that of piece 0), 0 at least." */
    private static void cushionNeverPulls(Expect expect) {
        PileMoves moves = pile(1, 1, 1);
        moves.blow(0, 1, 1);
        track(expect, "free", moves, 0, 0, 10, 20, 30, 40);
        track(expect, "the hammer goes back", moves, 1, 1, -8, -17, -26, -35);
    }

    private static void cushionComesAgain(Expect expect) {
        PileMoves moves = pile(1, 1, 1000);
        moves.blow(0, 10000, 1000);
        // Cushions 10000, 19890, 29570 ..: the piece's speed grows by them, the hammer's shrinks by a tenth of them.
        track(expect, "pushed on", moves, 0, 0, 10, 39, 98, 196, 342);
        track(expect, "the hammer held back", moves, 1, 1000, 1999, 2996, 3990, 4980, 5965);
    }

    /** "SPRING times (the upper one's place less the lower one's) by 1000, rounded to 0." */
    private static void springBothWays(Expect expect) {
        PileMoves moves = pile(2, 900, 1);
        moves.blow(0, 1, 1);
        // Springs of rounds 2, 3, 4: 900 * 10 / 1000 = 9; 1.8 is 1; -7.2 is -7.
        track(expect, "the upper", moves, 0, 0, 10, 11, 11, 18);
        track(expect, "the lower", moves, 1, 0, 0, 9, 19, 22);
    }

    private static void springOfLessThanOne(Expect expect) {
        PileMoves moves = pile(2, 99, 1);
        moves.blow(0, 1, 1);
        // 0.99 is 0, then 1.98 is 1, then 2.77 is 2.
        track(expect, "the upper", moves, 0, 0, 10, 20, 29, 36);
        track(expect, "the lower", moves, 1, 0, 0, 0, 1, 4);
        PileMoves least = pile(2, 1, 1);
        least.blow(0, 1, 1);
        expect.same("SPRING 1, 990 apart, gives nothing", 990, least.wave(99, 0));
        expect.same("so the lower one waits", 0, least.wave(100, 1));
        expect.same("1000 apart is 1", 1, least.wave(101, 1));
        expect.same("the upper is held by it", 1000 + 9, least.wave(101, 0));
    }

    /** "STIFF times its place by 1000, MOST at most, minus MOST at least", rounded to 0. */
    private static void groundBothWays(Expect expect) {
        PileMoves moves = pile(1, 1, 1);
        moves.ground(0, 0, 900, 100000);
        moves.blow(0, 1, 1);
        // Forces: 9, 9.9 is 9, 2.7 is 2, -6.3 is -6, -9.9 is -9.
        track(expect, "held", moves, 0, 0, 10, 11, 3, -7, -11, -6);
    }

    private static void groundAtItsMost(Expect expect) {
        PileMoves moves = pile(1, 1, 1);
        moves.ground(0, 0, 1000, 4);
        moves.blow(0, 1, 1);
        track(expect, "4 at most", moves, 0, 0, 10, 16, 18, 16, 10, 0, -10, -16, -18, -16, -10, 0);
        int[][] dues = {{9, 11}, {10, 10}, {11, 10}, {0, 20}};
        for (int[] due : dues) {
            moves.ground(0, 0, 1000, due[0]);
            moves.blow(0, 1, 1);
            expect.same("a force of 10, " + due[0] + " at most", due[1], moves.wave(2, 0));
        }
        moves.ground(0, 0, 0, 100000);
        moves.blow(0, 1, 1);
        track(expect, "no STIFF", moves, 0, 0, 10, 20, 30);
        moves.ground(0, 0, 1000, 100000);
        moves.blow(0, 1, 1000);
        track(expect, "a force of just 10000", moves, 0, 0, 10000, 10000, 0);
    }

    /** SINKS is not told in a blow's sentences. */
    private static void groundDoesNotSink(Expect expect) {
        PileMoves moves = pile(1, 1, 1);
        moves.ground(0, 0, 900, 100000);
        moves.sinks(0, 0, 10000);
        moves.blow(0, 1, 1);
        track(expect, "as without SINKS", moves, 0, 0, 10, 11, 3, -7, -11, -6);
    }

    /** "The last one by the tip, too (likewise, 0 at least)." */
    private static void tipNeverPulls(Expect expect) {
        PileMoves moves = pile(1, 1, 1);
        moves.tip(0, 900, 100000);
        moves.blow(0, 1, 1);
        track(expect, "a tip below 0", moves, 0, 0, 10, 11, 3, -7, -17, -27, -37);
    }

    private static void tipAtItsMost(Expect expect) {
        PileMoves moves = pile(1, 1, 1);
        moves.tip(0, 1000, 4);
        moves.blow(0, 1, 1);
        track(expect, "a tip of 4 at most", moves, 0, 0, 10, 16, 18, 16, 10, 0, -10, -20, -30);
        int[][] dues = {{9, 11}, {10, 10}, {11, 10}, {0, 20}};
        for (int[] due : dues) {
            moves.tip(0, 1000, due[0]);
            moves.blow(0, 1, 1);
            expect.same("a tip of 10, " + due[0] + " at most", due[1], moves.wave(2, 0));
        }
    }

    private static void tipOfAFastPiece(Expect expect) {
        PileMoves moves = pile(1, 1, 1);
        moves.tip(0, 1000, 1000000);
        moves.blow(0, 1, 1000);
        track(expect, "a tip of just 10000", moves, 0, 0, 10000, 10000, 0, -10000, -20000);
    }

    private static void tipAndGroundTogether(Expect expect) {
        PileMoves moves = pile(1, 1, 1);
        moves.ground(0, 0, 550, 100);
        moves.tip(0, 350, 100);
        moves.blow(0, 1, 1);
        // Each rounded for itself: 5.5 is 5 and 3.5 is 3; then 12: 6.6 is 6 and 4.2 is 4.
        track(expect, "both", moves, 0, 0, 10, 12, 4);
    }

    private static void tipOfTheLastPieceAlone(Expect expect) {
        PileMoves moves = pile(2, 1, 1);
        moves.tip(0, 1000, 1000000);
        moves.blow(0, 1, 1);
        track(expect, "the upper has no tip", moves, 0, 0, 10, 20, 30, 40);
        moves.tip(0, 0, 0);
        moves.ground(0, 1, 1000, 100000);
        moves.blow(0, 1, 1);
        track(expect, "nor the ground of the lower", moves, 0, 0, 10, 20, 30, 40);
        PileMoves stiff = pile(2, 900, 1);
        stiff.tip(0, 1000, 4);
        stiff.blow(0, 1, 1);
        // Round 3: the spring 1, the tip 9 cut to 4: the lower goes on with 9 + 1 - 4.
        track(expect, "the lower has it", stiff, 1, 0, 0, 9, 15);
    }

    /** "By places as they are at its beginning": nothing comes through a spring in the round that begins it. */
    private static void placesAsAtTheBeginning(Expect expect) {
        PileMoves moves = pile(3, 10000, 1);
        moves.blow(0, 1, 1);
        track(expect, "the first", moves, 0, 0, 10);
        track(expect, "the second", moves, 1, 0, 0, 100);
        track(expect, "the third", moves, 2, 0, 0, 0, 1000);
        track(expect, "the hammer comes first", moves, 3, 1, -8);
    }

    /** "Each speed grows by 1000 times what pushes it, by its mass, rounded to 0; each place by a thousandth, likewise." */
    private static void speedRoundedToNought(Expect expect) {
        PileMoves moves = pile(1, 1, 3);
        moves.ground(0, 0, 350, 100000);
        moves.blow(0, 1, 1);
        // 10000 / 3 is 3333. Round 2: a ground of 1 takes 333.3, 333: a speed of just 3000. Round 3: 2 take 666: 2334.
        track(expect, "a third of its push", moves, 0, 0, 3, 6, 8);
        PileMoves back = pile(1, 1, 2);
        back.ground(0, 0, 900, 100000);
        back.blow(0, 1, 1);
        // Speeds 5000, 3000, -500, -4000: by -500 it does not move.
        track(expect, "half a place back is none", back, 0, 0, 5, 8, 8, 4);
    }

    private static void hammersSpeedRoundedToNought(Expect expect) {
        PileMoves moves = pile(1, 1, 1);
        moves.blow(0, 3333, 1000);
        // 1000 * 10000 / 3333 is 3000.3, so 3000: a speed of 997000.
        track(expect, "a heavy hammer", moves, 1, 1000, 1997);
        moves.blow(0, 3, 1);
        // 10000 / 3 is 3333: a speed of -2333, two places back.
        track(expect, "a light hammer", moves, 1, 1, -1, -3);
    }

    /** "A speed is 10^9 at most then, and minus that at least", the hammer's, too. */
    private static void speedsAtTheirBounds(Expect expect) {
        PileMoves moves = pile(2, 10000, 1);
        moves.blow(0, 1, 1000);
        // In thousands: round 3 pushes piece 0 by 2430000 and piece 1 by -1800000, round 4 by -18200000 and as much down;
        // so behind round 4 their speeds are -1000000 and 1000000, and a spring of -1800000 takes 200000 of each.
        track(expect, "the upper", moves, 0, 0, 10000, -80000, 920000, -80000, 720000);
        track(expect, "the lower", moves, 1, 0, 0, 100000, -900000, 100000, -700000);
        track(expect, "the hammer", moves, 2, 1000, -8000, -17000, -656000, -1295000);
        PileMoves softer = pile(2, 3000, 1);
        softer.blow(0, 1, 1000);
        // Round 5: the cushion is 10 times (260000 - 35000), which the hammer's speed of -9000 thousands can't take.
        track(expect, "piece 0", softer, 0, 0, 10000, -10000, 90000, -260000, 740000);
        track(expect, "its hammer", softer, 2, 1000, -8000, -17000, -26000, -35000, -1035000, -2035000);
    }

    /** "In each of 200 rounds": 199 of them move a free piece by 10. */
    private static void twoHundredRounds(Expect expect) {
        PileMoves moves = pile(1, 1, 1);
        expect.same("the set", 1990, moves.blow(0, 1, 1));
        expect.same("behind the last round but one", 1980, moves.wave(198, 0));
        expect.same("behind the last round", 1990, moves.wave(199, 0));
        expect.illegalArgument("there is no more", () -> moves.wave(200, 0));
    }

    private static void leastAndGreatestBlows(Expect expect) {
        PileMoves moves = pile(1, 1, 1);
        moves.blow(0, 1, 1000);
        track(expect, "the least hammer at the greatest speed", moves, 1, 1000, -8000, -17000);
        track(expect, "the piece then", moves, 0, 0, 10000, 20000);
        moves.blow(0, 10000, 1);
        track(expect, "the greatest hammer at the least speed", moves, 1, 1, 1, 1);
        track(expect, "and its piece", moves, 0, 0, 10, 20);
        moves.pile(1, 1, 1000, 0);
        moves.blow(1, 1, 1);
        expect.same("the greatest mass: a speed of 10, so no place, in any round", 0, moves.wave(199, 0));
        moves.blow(1, 1, 100);
        track(expect, "the greatest mass, a speed of 1000", moves, 0, 0, 1, 2, 3);
    }

    /** "How far down the last piece came at most in these rounds." */
    private static void setIsTheFarthest(Expect expect) {
        PileMoves moves = pile(1, 1, 1);
        moves.ground(0, 0, 1000, 4);
        expect.same("not where it is at the end", 18, moves.blow(0, 1, 1));
        expect.same("at the end", -10, moves.wave(199, 0));
        PileMoves two = pile(2, 1, 1);
        expect.same("of the last piece, not of the first", 0, two.blow(0, 1, 1) - two.wave(199, 1));
        expect.yes("the first came further", two.wave(199, 0) > two.wave(199, 1));
    }

    /** "Less its QUAKE: 1000 times MOST of the tip by its STIFF, rounded down (0 without STIFF)." */
    private static void setLessItsQuake(Expect expect) {
        PileMoves moves = pile(1, 1, 1);
        // A tip of 1 at most takes 1000 of the speed a round: 10 + 9 + .. + 1 = 55 down, whatever its STIFF from 100 on.
        int[][] dues = {{1000, 54}, {999, 54}, {501, 54}, {500, 53}, {499, 53}, {334, 53}, {333, 52}, {101, 46}, {100, 45}};
        for (int[] due : dues) {
            moves.tip(0, due[0], 1);
            expect.same("STIFF " + due[0], due[1], moves.blow(0, 1, 1));
        }
        moves.tip(0, 0, 1000000);
        expect.same("without STIFF", 1990, moves.blow(0, 1, 1));
        moves.tip(0, 1000, 0);
        expect.same("without MOST", 1990, moves.blow(0, 1, 1));
        moves.tip(0, 0, 0);
        expect.same("without both", 1990, moves.blow(0, 1, 1));
    }

    /** "0 at least. (It begins at 0.)" */
    private static void setIsNotLessThanNought(Expect expect) {
        PileMoves moves = pile(1, 1, 1);
        moves.tip(0, 1000, 9);
        // A tip of 9: 10, 11, then 3: 11 down, a quake of 9.
        expect.same("a quake of 9", 2, moves.blow(0, 1, 1));
        moves.tip(0, 1000, 10);
        expect.same("just its quake", 0, moves.blow(0, 1, 1));
        moves.tip(0, 1000, 11);
        expect.same("one more than it came down", 0, moves.blow(0, 1, 1));
        moves.tip(0, 1, 1000000);
        expect.same("the greatest quake", 0, moves.blow(0, 10000, 1000));
        PileMoves long12 = pile(12, 1, 1000);
        expect.same("the last piece never moves", 0, long12.blow(0, 1, 1));
        long12.tip(0, 1, 1);
        expect.same("never moves, and has a quake", 0, long12.blow(0, 1, 1));
    }

    /** "Its own rounds, all places and speeds 0 at first." */
    private static void setOfEachBlow(Expect expect) {
        PileMoves moves = pile(1, 1, 1);
        expect.same("a great blow", 1990000, moves.blow(0, 1, 1000));
        expect.same("a small one", 1990, moves.blow(0, 1, 1));
        track(expect, "from nought", moves, 0, 0, 10, 20);
        track(expect, "the hammer from nought", moves, 1, 1, -8, -17);
        moves.pile(3, 10000, 1, 0);
        moves.blow(1, 1, 1000);
        expect.same("another pile's blow before", 1990, moves.blow(0, 1, 1));
        track(expect, "from nought again", moves, 0, 0, 10, 20);
        expect.same("no blow moves a pile for good", PileMoves.NONE, moves.under(0, 0));
        expect.same("nor loads it", 0, moves.load(0, 10));
    }

    /** Promise 15: "the latest blow". */
    private static void waveOfTheLatestBlow(Expect expect) {
        PileMoves moves = pile(1, 1, 1);
        moves.pile(2, 900, 1, 0);
        moves.blow(1, 1, 1);
        expect.same("the first's", 11, moves.wave(2, 0));
        expect.same("its hammer", -17, moves.wave(2, 2));
        moves.blow(0, 1, 1);
        expect.same("the second's", 20, moves.wave(2, 0));
        expect.same("its hammer stands behind its last piece", -17, moves.wave(2, 1));
        expect.illegalArgument("behind it is nothing left of the first", () -> moves.wave(2, 2));
        moves.ground(0, 0, 1000, 1000);
        moves.tip(0, 1000, 1000);
        moves.pile(5, 1, 1, 0);
        moves.under(1, 3);
        expect.same("nothing but a blow changes it", 20, moves.wave(2, 0));
        expect.illegalArgument("not one that is refused", () -> moves.blow(3, 1, 1));
        expect.same("as before", 20, moves.wave(2, 0));
        PileMoves other = pile(1, 1, 1);
        expect.illegalState("nor one of another object", () -> other.wave(2, 0));
    }
}
