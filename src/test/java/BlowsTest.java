/** Promises 14 and 15: blow, wave. */
final class BlowsTest {
    private static final int FAR = Integer.MAX_VALUE;
    private static final int BACK = Integer.MIN_VALUE;

    public static void main(String[] args) {
        Expect expect = new Expect("BlowsTest");
        freePiece(expect);
        springAndGround(expect);
        quake(expect);
        fastest(expect);
        ownRounds(expect);
        blowWrong(expect);
        waveWrong(expect);
        expect.end();
    }

    /** Promises 14 and 15, by hand: nothing holds the piece, so it goes on as it was pushed. */
    private static void freePiece(Expect expect) {
        PileMoves moves = new PileMoves();
        moves.pile(1, 1, 1, 0);
        expect.same("the set", 1990, moves.blow(0, 1, 1));
        expect.same("the piece waits", 0, moves.wave(0, 0));
        expect.same("the hammer comes", 1, moves.wave(0, 1));
        expect.same("the piece is pushed by 10", 10, moves.wave(1, 0));
        expect.same("the hammer is pushed back by 10", -8, moves.wave(1, 1));
        expect.same("nothing pulls the piece", 20, moves.wave(2, 0));
        expect.same("nothing pulls the hammer", -17, moves.wave(2, 1));
        expect.same("the piece at the end", 1990, moves.wave(199, 0));
        expect.same("the hammer at the end", -8 - 9 * 198, moves.wave(199, 1));
    }

    private static void springAndGround(Expect expect) {
        PileMoves moves = new PileMoves();
        moves.pile(2, 150, 2, 0);
        moves.ground(0, 0, 100, 3);
        moves.tip(0, 1000, 1);
        moves.sinks(0, 0, 10000);
        moves.blow(0, 4, 2);
        // Behind round 0 the hammer is at 2. Round 1: the cushion's 20 push piece 0 at 10000, to 10,
        // and the hammer from 2000 to -3000, to -1.
        expect.same("piece 0 behind round 1", 10, moves.wave(1, 0));
        expect.same("piece 1 behind round 1", 0, moves.wave(1, 1));
        expect.same("the hammer behind round 1", -1, moves.wave(1, 2));
        // Round 2: the spring pushes by 150 * 10 / 1000 = 1, the ground holds by 1: piece 0 at 10000 - 1000, piece 1 at 500.
        expect.same("piece 0 behind round 2", 19, moves.wave(2, 0));
        expect.same("piece 1 behind round 2", 0, moves.wave(2, 1));
        // Round 3: the spring 2, the ground 1: piece 0 at 9000 - 1500, piece 1 at 500 + 1000.
        expect.same("piece 0 behind round 3", 26, moves.wave(3, 0));
        expect.same("piece 1 behind round 3", 1, moves.wave(3, 1));
        // Round 4: the spring 150 * 25 / 1000 = 3, the ground 2, the tip 1: piece 0 at 7500 - 2500, piece 1 at 1500 + 1000.
        expect.same("piece 0 behind round 4", 31, moves.wave(4, 0));
        expect.same("piece 1 behind round 4", 3, moves.wave(4, 1));
    }

    private static void quake(Expect expect) {
        int[][] tips = {{0, 0}, {0, 1000000}, {3, 2}, {7, 1}, {1000, 1}, {1000, 1000000}, {1, 1000000}};
        for (int[] tip : tips) {
            PileMoves moves = new PileMoves();
            moves.pile(3, 40, 100, 0);
            moves.ground(0, 1, 2, 30);
            moves.tip(0, tip[0], tip[1]);
            int set = moves.blow(0, 200, 300);
            int deepest = 0;
            for (int round = 0; round < 200; round++) {
                deepest = Math.max(deepest, moves.wave(round, 2));
            }
            int quake = tip[0] == 0 ? 0 : 1000 * tip[1] / tip[0];
            expect.yes("it comes down at all", deepest > 667);
            expect.same("the set by its waves", Math.max(0, deepest - quake), set);
        }
    }

    private static void fastest(Expect expect) {
        int fastestDown = 0;
        int fastestUp = 0;
        for (int piece = 0; piece <= 3; piece++) {
            PileMoves moves = new PileMoves();
            moves.pile(3, 10000, 1, 0);
            moves.blow(0, 1, 1000);
            int before = 0;
            for (int round = 0; round < 200; round++) {
                int place = moves.wave(round, piece);
                fastestDown = Math.max(fastestDown, place - before);
                fastestUp = Math.min(fastestUp, place - before);
                before = place;
            }
        }
        expect.same("a thousandth of the greatest speed", 1000000, fastestDown);
        expect.same("a thousandth of the least speed", -1000000, fastestUp);
    }

    private static void ownRounds(Expect expect) {
        PileMoves moves = new PileMoves();
        moves.pile(3, 500, 20, 0);
        moves.ground(0, 0, 10, 1000);
        moves.tip(0, 100, 50);
        int set = moves.blow(0, 300, 40);
        int place = moves.wave(120, 1);
        moves.pile(1, 1, 1, 0);
        expect.same("another blow", 1990, moves.blow(1, 1, 1));
        expect.same("the latest blow is the other's", 1990, moves.wave(199, 0));
        expect.illegalArgument("the other has no third piece", () -> moves.wave(0, 2));
        expect.same("the same blow again, from nought", set, moves.blow(0, 300, 40));
        expect.same("and the same wave", place, moves.wave(120, 1));
        moves.ground(0, 0, 1000, 100000);
        moves.tip(0, 0, 0);
        moves.sinks(0, 1, 77);
        moves.under(0, 5);
        expect.same("the ground told anew leaves the wave", place, moves.wave(120, 1));
        expect.illegalArgument("a blow that is refused", () -> moves.blow(1, 0, 1));
        expect.same("leaves the wave too", place, moves.wave(120, 1));
    }

    private static void blowWrong(Expect expect) {
        PileMoves moves = new PileMoves();
        moves.pile(1, 1, 1, 0);
        int[][] wrong = {
            {-1, 1, 1}, {1, 1, 1}, {FAR, 1, 1}, {BACK, 1, 1}, {0, 0, 1}, {0, 10001, 1}, {0, -1, 1}, {0, FAR, 1},
            {0, 1, 0}, {0, 1, 1001}, {0, 1, -1}, {0, 1, BACK}};
        for (int[] w : wrong) {
            expect.illegalArgument("blow out of its bounds", () -> moves.blow(w[0], w[1], w[2]));
        }
        expect.illegalState("none of them was a blow", () -> moves.wave(0, 0));
        moves.blow(0, 10000, 1000);
        expect.same("the greatest hammer and speed", 1000, moves.wave(0, 1));
    }

    private static void waveWrong(Expect expect) {
        PileMoves moves = new PileMoves();
        int[][] wrong = {{-1, 0}, {200, 0}, {FAR, 0}, {BACK, 0}, {0, -1}, {0, 14}, {0, FAR}, {0, BACK}};
        for (int[] w : wrong) {
            expect.illegalState("no blow, before all else", () -> moves.wave(w[0], w[1]));
        }
        moves.pile(12, 1, 1, 0);
        expect.illegalState("a pile is no blow", () -> moves.wave(0, 0));
        moves.blow(0, 1, 1);
        for (int[] w : wrong) {
            expect.illegalArgument("wave out of its bounds", () -> moves.wave(w[0], w[1]));
        }
        expect.illegalArgument("none behind the hammer", () -> moves.wave(0, 13));
        expect.same("the hammer behind the last of twelve", 1, moves.wave(0, 12));
        expect.same("the last piece, the last round", 0, moves.wave(199, 11));
    }
}
