/** Promises 11 to 13: join, group, share. */
final class GroupsTest {
    private static final int NONE = PileMoves.NONE;
    private static final int FAR = Integer.MAX_VALUE;
    private static final int BACK = Integer.MIN_VALUE;

    public static void main(String[] args) {
        Expect expect = new Expect("GroupsTest");
        join(expect);
        group(expect);
        groupEdges(expect);
        groupWrong(expect);
        share(expect);
        shareWrong(expect);
        expect.end();
    }

    /** Two piles of one piece: one held by 10 a place up to 100, the other by 4 a place up to 1000. */
    private static PileMoves twoPiles() {
        PileMoves moves = new PileMoves();
        moves.pile(1, 1, 1, 0);
        moves.ground(0, 0, 10, 100);
        moves.pile(1, 1, 1, 0);
        moves.ground(1, 0, 4, 1000);
        return moves;
    }

    /** Promise 11. */
    private static void join(Expect expect) {
        PileMoves moves = twoPiles();
        expect.no("to leave without being in it", moves.join(0, false));
        expect.no("to come", moves.join(0, true));
        expect.yes("to come again", moves.join(0, true));
        expect.same("it counts but once", 5, moves.group(50));
        expect.no("the other comes for itself", moves.join(1, true));
        expect.yes("to leave", moves.join(0, false));
        expect.no("to leave again", moves.join(0, false));
        expect.yes("the other is still in it", moves.join(1, true));
        for (int wrong : new int[] {-1, 2, 5, 6, FAR, BACK}) {
            expect.illegalArgument("no such pile comes", () -> moves.join(wrong, true) ? 1 : 0);
            expect.illegalArgument("no such pile leaves", () -> moves.join(wrong, false) ? 1 : 0);
        }
    }

    /** Promise 12. */
    private static void group(Expect expect) {
        PileMoves moves = twoPiles();
        moves.join(1, true);
        expect.same("one pile alone", 25, moves.group(100));
        moves.join(0, true);
        expect.same("both, 14 a place", 7, moves.group(100));
        expect.same("just before the next place", 6, moves.group(97));
        expect.same("just at a place", 7, moves.group(98));
        expect.same("one gives way at 100, the other goes on", 25, moves.group(200));
        expect.same("under nothing", 0, moves.group(0));
        moves.sinks(0, 0, 20);
        // At 14: 10 * (14 - 20) and 4 * 14 come to -4; at 15 to 10.
        expect.same("under nothing, with ground that sinks", 14, moves.group(0));
    }

    private static void groupEdges(Expect expect) {
        PileMoves moves = new PileMoves();
        moves.pile(1, 1, 1, 0);
        moves.ground(0, 0, 1, 100000);
        moves.join(0, true);
        expect.same("the farthest settlement", 9999, moves.group(9999));
        expect.same("not above it at 10000", NONE, moves.group(10000));
        expect.same("under the greatest load", NONE, moves.group(10000000));
        expect.same("a pile alone goes on", 10000, moves.under(0, 10000));
        moves.pile(3, 1, 1, 0);
        moves.join(1, true);
        expect.same("a pile without ground bears nothing", 9999, moves.group(9999));
        moves.join(0, false);
        expect.same("without ground at all", NONE, moves.group(0));
    }

    private static void groupWrong(Expect expect) {
        PileMoves moves = twoPiles();
        expect.illegalState("the group is empty", () -> moves.group(0));
        expect.illegalState("the group is empty, the greatest load", () -> moves.group(10000000));
        for (int wrong : new int[] {-1, 10000001, FAR, BACK}) {
            expect.illegalArgument("out of its bounds before it is empty", () -> moves.group(wrong));
        }
        moves.join(0, true);
        for (int wrong : new int[] {-1, 10000001, FAR, BACK}) {
            expect.illegalArgument("out of its bounds", () -> moves.group(wrong));
        }
        moves.join(0, false);
        expect.illegalState("the group is empty again", () -> moves.group(0));
    }

    /** Promise 13. */
    private static void share(Expect expect) {
        PileMoves moves = twoPiles();
        moves.join(0, true);
        moves.join(1, true);
        expect.same("the first bears", 70, moves.share(100, 0));
        expect.same("the second bears", 28, moves.share(100, 1));
        expect.same("the first has given way", 100, moves.share(200, 0));
        expect.same("the second has the rest", 100, moves.share(200, 1));
        expect.same("no settlement", NONE, moves.share(1100, 0));
        expect.same("no settlement for the other", NONE, moves.share(1100, 1));
        moves.sinks(0, 0, 20);
        expect.same("one is pulled down by the ground", -60, moves.share(0, 0));
        expect.same("and the other bears it", 56, moves.share(0, 1));
    }

    private static void shareWrong(Expect expect) {
        PileMoves moves = twoPiles();
        expect.illegalState("the group is empty", () -> moves.share(0, 0));
        expect.illegalArgument("no such pile, and empty", () -> moves.share(0, 2));
        expect.illegalArgument("out of its bounds, and empty", () -> moves.share(-1, 0));
        moves.join(1, true);
        expect.illegalArgument("the pile is not in it", () -> moves.share(0, 0));
        int[][] wrong = {{-1, 1}, {10000001, 1}, {FAR, 1}, {BACK, 1}, {0, -1}, {0, 2}, {0, FAR}, {0, BACK}};
        for (int[] w : wrong) {
            expect.illegalArgument("share out of its bounds", () -> moves.share(w[0], w[1]));
        }
        expect.same("the pile in it", 0, moves.share(0, 1));
    }
}
