/** Promises 1 to 5: a new object, pile, ground, sinks, tip. */
final class MakingTest {
    private static final int NONE = PileMoves.NONE;
    private static final int FAR = Integer.MAX_VALUE;
    private static final int BACK = Integer.MIN_VALUE;

    public static void main(String[] args) {
        Expect expect = new Expect("MakingTest");
        newObject(expect);
        pileNumbers(expect);
        pileBounds(expect);
        allZeroAtFirst(expect);
        ground(expect);
        sinks(expect);
        tip(expect);
        expect.end();
    }

    /** Promise 1. */
    private static void newObject(Expect expect) {
        PileMoves moves = new PileMoves();
        expect.illegalArgument("under without a pile", () -> moves.under(0, 0));
        expect.illegalArgument("join without a pile", () -> moves.join(0, true) ? 1 : 0);
        expect.illegalState("group without a pile", () -> moves.group(0));
        expect.illegalState("wave without a blow", () -> moves.wave(0, 0));
        expect.same("cheapest without a pile", NONE, moves.cheapest(0, 0));
        PileMoves other = new PileMoves();
        expect.same("the first pile of one object", 0, moves.pile(1, 1, 1, 0));
        expect.same("the first pile of the other", 0, other.pile(1, 1, 1, 0));
        expect.no("a new pile is in the group", moves.join(0, false));
    }

    /** Promise 2. */
    private static void pileNumbers(Expect expect) {
        PileMoves moves = new PileMoves();
        for (int i = 0; i < 6; i++) {
            expect.same("pile", i, moves.pile(1 + i, 10, 1, i));
        }
        expect.illegalState("a seventh pile", () -> moves.pile(1, 1, 1, 1));
        expect.illegalArgument("a seventh pile without pieces", () -> moves.pile(0, 1, 1, 1));
        expect.illegalArgument("a seventh pile too costly", () -> moves.pile(1, 1, 1, 100001));
        expect.same("the sixth pile is there", 0, moves.hold(5));
        expect.illegalArgument("no pile came of it", () -> moves.hold(6));
    }

    private static void pileBounds(Expect expect) {
        PileMoves moves = new PileMoves();
        int[][] wrong = {
            {0, 1, 1, 0}, {13, 1, 1, 0}, {-1, 1, 1, 0}, {FAR, 1, 1, 0}, {BACK, 1, 1, 0},
            {1, 0, 1, 0}, {1, 10001, 1, 0}, {1, -1, 1, 0}, {1, FAR, 1, 0}, {1, BACK, 1, 0},
            {1, 1, 0, 0}, {1, 1, 1001, 0}, {1, 1, -1, 0}, {1, 1, FAR, 0}, {1, 1, BACK, 0},
            {1, 1, 1, -1}, {1, 1, 1, 100001}, {1, 1, 1, FAR}, {1, 1, 1, BACK}};
        for (int[] w : wrong) {
            expect.illegalArgument("pile out of its bounds", () -> moves.pile(w[0], w[1], w[2], w[3]));
        }
        expect.same("the least pile is the first", 0, moves.pile(1, 1, 1, 0));
        expect.same("the greatest pile", 1, moves.pile(12, 10000, 1000, 100000));
        moves.ground(1, 11, 1, 1);
        expect.illegalArgument("a thirteenth piece", () -> moves.sinks(1, 12, 0));
        expect.illegalArgument("a second piece of the first pile", () -> moves.sinks(0, 1, 0));
    }

    private static void allZeroAtFirst(Expect expect) {
        PileMoves moves = new PileMoves();
        moves.pile(2, 3, 1, 0);
        expect.same("sinks of piece 0", 0, moves.sinks(0, 0, 0));
        expect.same("sinks of piece 1", 0, moves.sinks(0, 1, 0));
        expect.same("nothing holds it up", NONE, moves.under(0, 0));
        expect.same("a load far down", 0, moves.load(0, 100000));
        expect.same("the hold", 0, moves.hold(0));
    }

    /** Promise 3. */
    private static void ground(Expect expect) {
        PileMoves moves = new PileMoves();
        moves.pile(2, 10, 1, 0);
        moves.ground(0, 0, 10, 100);
        expect.same("by its stiffness", 30, moves.load(0, 3));
        expect.same("at its most", 100, moves.load(0, 11));
        expect.same("upwards by its stiffness", -30, moves.load(0, -3));
        expect.same("upwards at its most", -100, moves.load(0, -11));
        moves.ground(0, 0, 7, 21);
        expect.same("told anew", 14, moves.load(0, 2));
        expect.same("told anew, at its most", 21, moves.load(0, 4));
        int[][] wrong = {
            {-1, 0, 1, 1}, {1, 0, 1, 1}, {6, 0, 1, 1}, {FAR, 0, 1, 1}, {BACK, 0, 1, 1},
            {0, -1, 1, 1}, {0, 2, 1, 1}, {0, FAR, 1, 1}, {0, BACK, 1, 1},
            {0, 0, -1, 1}, {0, 0, 1001, 1}, {0, 0, 1, -1}, {0, 0, 1, 100001}};
        for (int[] w : wrong) {
            expect.illegalArgument("ground out of its bounds", () -> {
                moves.ground(w[0], w[1], w[2], w[3]);
                return 0;
            });
        }
        expect.same("unchanged by what was refused", 14, moves.load(0, 2));
        expect.same("unchanged at its most", 21, moves.load(0, 4));
        moves.ground(0, 0, 1000, 100000);
        expect.same("the greatest ground, nearly at its most", 99000, moves.load(0, 99));
        expect.same("the greatest ground at its most", 100000, moves.load(0, 101));
        moves.ground(0, 0, 0, 0);
        expect.same("the least ground", 0, moves.load(0, 50));
    }

    /** Promise 4. */
    private static void sinks(Expect expect) {
        PileMoves moves = new PileMoves();
        moves.pile(2, 1000, 1, 0);
        moves.ground(0, 0, 10, 100);
        expect.same("what it was at first", 0, moves.sinks(0, 0, 4));
        expect.same("what it was", 4, moves.sinks(0, 0, 5));
        expect.same("the other piece stands for itself", 0, moves.sinks(0, 1, 3));
        expect.same("the pile goes down with the ground", 5, moves.under(0, 0));
        expect.same("held back at first", -50, moves.load(0, 0));
        expect.same("its own force from where it sank to", 20, moves.load(0, 7));
        int[][] wrong = {
            {-1, 0, 1}, {1, 0, 1}, {FAR, 0, 1}, {0, -1, 1}, {0, 2, 1}, {0, BACK, 1},
            {0, 0, -1}, {0, 0, 10001}, {0, 0, FAR}, {0, 0, BACK}};
        for (int[] w : wrong) {
            expect.illegalArgument("sinks out of its bounds", () -> moves.sinks(w[0], w[1], w[2]));
        }
        expect.same("unchanged by what was refused", 5, moves.sinks(0, 0, 10000));
        expect.same("the greatest", 10000, moves.sinks(0, 0, 0));
        expect.same("the other piece kept its own", 3, moves.sinks(0, 1, 0));
    }

    /** Promise 5. */
    private static void tip(Expect expect) {
        PileMoves moves = new PileMoves();
        moves.pile(2, 1000, 1, 0);
        moves.tip(0, 3, 30);
        expect.same("by its stiffness", 27, moves.load(0, 9));
        expect.same("at its most", 30, moves.load(0, 11));
        expect.same("it does not pull", 0, moves.load(0, -5));
        moves.tip(0, 4, 50);
        expect.same("told anew", 36, moves.load(0, 9));
        moves.sinks(0, 1, 5);
        expect.same("it does not sink", 36, moves.load(0, 9));
        int[][] wrong = {
            {-1, 1, 1}, {1, 1, 1}, {FAR, 1, 1}, {BACK, 1, 1}, {0, -1, 1}, {0, 1001, 1},
            {0, 1, -1}, {0, 1, 1000001}, {0, 1, FAR}};
        for (int[] w : wrong) {
            expect.illegalArgument("tip out of its bounds", () -> {
                moves.tip(w[0], w[1], w[2]);
                return 0;
            });
        }
        expect.same("unchanged by what was refused", 36, moves.load(0, 9));
        moves.tip(0, 1000, 1000000);
        expect.same("the greatest tip", 1000000, moves.load(0, 100000));
        moves.tip(0, 0, 0);
        expect.same("no tip", 0, moves.load(0, 9));
    }
}
