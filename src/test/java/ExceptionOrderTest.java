/** "Of several exceptions the one named first is thrown (but where a call says otherwise)." */
final class ExceptionOrderTest {
    private static final int FAR = Integer.MAX_VALUE;
    private static final int BACK = Integer.MIN_VALUE;

    public static void main(String[] args) {
        Expect expect = new Expect("ExceptionOrderTest");
        pile(expect);
        group(expect);
        shareOfNone(expect);
        shareOfSome(expect);
        wave(expect);
        expect.end();
    }

    /** Illegal argument before illegal state: there are 6. */
    private static void pile(Expect expect) {
        PileMoves moves = new PileMoves();
        for (int i = 0; i < 6; i++) {
            moves.pile(1, 1, 1, 0);
        }
        int[][] wrong = {
            {0, 1, 1, 0}, {13, 1, 1, 0}, {1, 0, 1, 0}, {1, 10001, 1, 0}, {1, 1, 0, 0}, {1, 1, 1001, 0},
            {1, 1, 1, -1}, {1, 1, 1, 100001}, {FAR, FAR, FAR, FAR}, {BACK, BACK, BACK, BACK}};
        for (int[] w : wrong) {
            expect.illegalArgument("a seventh pile out of its bounds", () -> moves.pile(w[0], w[1], w[2], w[3]));
        }
        expect.illegalState("a seventh pile, the least", () -> moves.pile(1, 1, 1, 0));
        expect.illegalState("a seventh pile, the greatest", () -> moves.pile(12, 10000, 1000, 100000));
    }

    /** Illegal argument before illegal state: it is empty. */
    private static void group(Expect expect) {
        PileMoves moves = new PileMoves();
        for (int count = 0; count < 2; count++) {
            for (int wrong : new int[] {-1, 10000001, FAR, BACK}) {
                expect.illegalArgument("empty, and the load out of its bounds", () -> moves.group(wrong));
            }
            expect.illegalState("empty, the least load", () -> moves.group(0));
            expect.illegalState("empty, the greatest load", () -> moves.group(10000000));
            moves.pile(1, 1, 1, 0);
        }
    }

    /** Illegal argument before illegal state, but a pile that is not in it only after it. */
    private static void shareOfNone(Expect expect) {
        PileMoves moves = new PileMoves();
        expect.illegalArgument("empty, and no pile at all", () -> moves.share(0, 0));
        moves.pile(1, 1, 1, 0);
        for (int wrong : new int[] {-1, 10000001, FAR, BACK}) {
            expect.illegalArgument("empty, and the load out of its bounds", () -> moves.share(wrong, 0));
        }
        for (int wrong : new int[] {-1, 1, 6, FAR, BACK}) {
            expect.illegalArgument("empty, and no such pile", () -> moves.share(0, wrong));
        }
        expect.illegalState("empty, so the pile is not in it", () -> moves.share(0, 0));
        moves.join(0, true);
        moves.join(0, false);
        expect.illegalState("empty again", () -> moves.share(0, 0));
    }

    /** A pile that is not in it is wrong also where the group would have no settlement. */
    private static void shareOfSome(Expect expect) {
        PileMoves moves = new PileMoves();
        moves.pile(1, 1, 1, 0);
        moves.pile(1, 1, 1, 0);
        moves.join(1, true);
        expect.same("the pile in it, no settlement", PileMoves.NONE, moves.share(5, 1));
        expect.illegalArgument("not in it, no settlement", () -> moves.share(5, 0));
        moves.ground(1, 0, 10, 100);
        expect.same("the pile in it", 0, moves.share(5, 1));
        expect.illegalArgument("not in it", () -> moves.share(5, 0));
        expect.illegalArgument("no such pile", () -> moves.share(5, 2));
        expect.illegalArgument("not in it, and the load out of its bounds", () -> moves.share(-1, 0));
    }

    /** Illegal state before illegal argument: there was no blow. */
    private static void wave(Expect expect) {
        PileMoves moves = new PileMoves();
        int[][] wrong = {{-1, 0}, {200, 0}, {0, -1}, {0, 2}, {FAR, FAR}, {BACK, BACK}};
        for (int count = 0; count < 2; count++) {
            expect.illegalState("no blow", () -> moves.wave(0, 0));
            for (int[] w : wrong) {
                expect.illegalState("no blow, and out of its bounds", () -> moves.wave(w[0], w[1]));
            }
            moves.pile(1, 1, 1, 0);
        }
        moves.blow(1, 1, 1);
        for (int[] w : wrong) {
            expect.illegalArgument("a blow, but out of its bounds", () -> moves.wave(w[0], w[1]));
        }
        expect.same("a blow", 0, moves.wave(0, 0));
    }
}
