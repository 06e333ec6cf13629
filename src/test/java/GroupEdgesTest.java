/** The sentence of 'Terms' about groups, and promises 11 to 13, at their edges. */
final class GroupEdgesTest {
    private static final int NONE = PileMoves.NONE;

    public static void main(String[] args) {
        Expect expect = new Expect("GroupEdgesTest");
        emptyAtFirst(expect);
        eachAtMostOnce(expect);
        comesAndLeaves(expect);
        greatestSettlement(expect);
        noneAtTenThousand(expect);
        noneWhereTheHeadPassesIt(expect);
        notAboveAtNought(expect);
        startsAtNought(expect);
        allSix(expect);
        greatestLoads(expect);
        shareAtItsSettlement(expect);
        groundToldAnew(expect);
        expect.end();
    }

    /** Piles of one piece, each in ground of so much a place, up to so much. */
    private static PileMoves piles(int[]... grounds) {
        PileMoves moves = new PileMoves();
        for (int[] ground : grounds) {
            int pile = moves.pile(1, 1, 1, 0);
            moves.ground(pile, 0, ground[0], ground[1]);
        }
        return moves;
    }

    private static void emptyAtFirst(Expect expect) {
        PileMoves moves = piles(new int[] {10, 100}, new int[] {4, 1000});
        expect.illegalState("group of none", () -> moves.group(5));
        expect.illegalState("share of none", () -> moves.share(5, 0));
        expect.no("the first is not in it", moves.join(0, false));
        expect.no("the second is not in it", moves.join(1, false));
        expect.illegalState("leaving made no group", () -> moves.group(5));
        PileMoves other = piles(new int[] {10, 100});
        moves.join(0, true);
        expect.illegalState("another object's group is its own", () -> other.group(5));
    }

    private static void eachAtMostOnce(Expect expect) {
        PileMoves moves = piles(new int[] {10, 100}, new int[] {4, 1000});
        expect.no("comes", moves.join(0, true));
        expect.yes("comes again", moves.join(0, true));
        expect.yes("comes once more", moves.join(0, true));
        expect.same("it bears for one", 5, moves.group(50));
        expect.same("all of the load", 50, moves.share(50, 0));
        expect.yes("leaves", moves.join(0, false));
        expect.no("and is not in it any more", moves.join(0, false));
        expect.illegalState("so it is empty", () -> moves.group(50));
    }

    private static void comesAndLeaves(Expect expect) {
        PileMoves moves = piles(new int[] {10, 1000}, new int[] {4, 1000}, new int[] {6, 1000});
        moves.join(2, true);
        moves.join(0, true);
        expect.same("the first and the last", 6, moves.group(96));
        expect.illegalArgument("the one between them is not in it", () -> moves.share(96, 1));
        moves.join(1, true);
        expect.same("all three", 5, moves.group(100));
        moves.join(2, false);
        expect.same("without the last", 7, moves.group(98));
        expect.illegalArgument("which has no share", () -> moves.share(98, 2));
        moves.join(0, false);
        expect.same("the one between alone", 25, moves.group(100));
        moves.join(1, false);
        expect.illegalState("none", () -> moves.group(100));
        expect.illegalState("no share either", () -> moves.share(100, 1));
    }

    /** "The greatest settlement s of 0 .. 10000 at which the loads together are not above P." */
    private static void greatestSettlement(Expect expect) {
        PileMoves moves = piles(new int[] {10, 100}, new int[] {4, 1000});
        moves.join(0, true);
        moves.join(1, true);
        expect.same("at 0", 0, moves.group(0));
        expect.same("one less than at 1", 0, moves.group(13));
        expect.same("at 1", 1, moves.group(14));
        expect.same("one more than at 1", 1, moves.group(15));
        expect.same("the first just at its most", 10, moves.group(140));
        expect.same("beyond it", 11, moves.group(144));
        expect.same("one less than all", 249, moves.group(1099));
        PileMoves loose = piles(new int[] {0, 0}, new int[] {1, 100000});
        loose.sinks(1, 0, 500);
        loose.join(1, true);
        expect.same("the ground sank by 500", 500, loose.group(0));
        loose.join(0, true);
        expect.same("a pile without ground changes nothing", 500, loose.group(0));
    }

    /** "NONE if at 10000 they are not above it." */
    private static void noneAtTenThousand(Expect expect) {
        PileMoves moves = piles(new int[] {1, 100000});
        moves.join(0, true);
        expect.same("at 9998", 9998, moves.group(9998));
        expect.same("at 9999", 9999, moves.group(9999));
        expect.same("at 10000", NONE, moves.group(10000));
        expect.same("at 10001", NONE, moves.group(10001));
        expect.same("share at 9999", 9999, moves.share(9999, 0));
        expect.same("share at 10000", NONE, moves.share(10000, 0));
        expect.same("the pile alone is not bound by it", 10001, moves.under(0, 10001));
        PileMoves soft = piles(new int[] {3, 300}, new int[] {2, 100});
        soft.join(0, true);
        soft.join(1, true);
        expect.same("one less than all", 99, soft.group(399));
        expect.same("all that they have", NONE, soft.group(400));
        PileMoves late = piles(new int[] {1000, 100000});
        late.sinks(0, 0, 10000);
        late.join(0, true);
        expect.same("ground that sank by 10000: not above 0 there", NONE, late.group(0));
        late.ground(0, 0, 0, 0);
        late.tip(0, 1, 10000);
        expect.same("a tip that is all there at 10000", NONE, late.group(10000));
        expect.same("and nearly at 9999", 9999, late.group(9999));
    }

    /** A head that would pass 10000 at one step: at 10000 the loads are those of the state before it. */
    private static void noneWhereTheHeadPassesIt(Expect expect) {
        PileMoves moves = StateEdgesTest.heldUp();
        moves.join(0, true);
        // Last piece at 7: F 8000, head at 8007; at 8: 9000, 9008; at 9: 10000, 10009.
        expect.same("the last of 8000", 9007, moves.group(8999));
        expect.same("9000 up to 10008", NONE, moves.group(9000));
        expect.same("the pile alone bears it", 9008, moves.under(0, 9000));
        expect.same("its load AT 10000", 9000, moves.load(0, 10000));
        expect.same("no share", NONE, moves.share(9000, 0));
        expect.same("a share of one less", 8000, moves.share(8999, 0));
    }

    /** "NONE if at 0 they are above it": they never are, nor has a pile no state at 0. */
    private static void notAboveAtNought(Expect expect) {
        PileMoves moves = new PileMoves();
        for (int pile = 0; pile < 6; pile++) {
            moves.pile(12, 5000 + 1000 * pile, 1, 0);
            for (int piece = 0; piece < 12; piece++) {
                moves.ground(pile, piece, 1000, 100000);
                moves.sinks(pile, piece, 60 * pile + 5 * piece);
            }
            moves.tip(pile, 1000, 1000000);
            moves.join(pile, true);
            expect.yes("a settlement under nothing", moves.group(0) >= 0);
            expect.yes("at 0 not above 0", moves.load(pile, 0) <= 0);
        }
    }

    /** A pile whose head would be above 0 under the load: the group's settlement is of 0 .. 10000 all the same. */
    private static void startsAtNought(Expect expect) {
        PileMoves moves = StateEdgesTest.heldUp();
        moves.join(0, true);
        expect.same("the pile alone", -1000, moves.under(0, 0));
        expect.same("the group goes down to the last place of that state", 1000, moves.group(0));
        expect.same("and so up to the next load", 1000, moves.group(999));
        expect.same("then to the last of the next", 3001, moves.group(1000));
        expect.same("its share is less than nothing", -1000, moves.share(0, 0));
        expect.same("or less than the load", 1000, moves.share(1500, 0));
        moves.pile(1, 1, 1, 0);
        moves.ground(1, 0, 1, 500);
        moves.join(1, true);
        // From 500 on the second bears 500, the first -1000 up to 1000, and 1000 from there on.
        expect.same("both", 1000, moves.group(0));
        expect.same("the first pulls", -1000, moves.share(0, 0));
        expect.same("the second bears", 500, moves.share(0, 1));
    }

    private static void allSix(Expect expect) {
        PileMoves moves = piles(new int[] {1, 100000}, new int[] {2, 100000}, new int[] {3, 100000},
                new int[] {4, 100000}, new int[] {5, 100000}, new int[] {6, 100000});
        int together = 0;
        for (int pile = 0; pile < 6; pile++) {
            moves.join(pile, true);
            together += pile + 1;
            expect.same("piles 0 .. " + pile, 90, moves.group(90 * together));
            expect.same("one less than for 90", 89, moves.group(90 * together - 1));
            expect.same("share of the last", 90 * (pile + 1), moves.share(90 * together, pile));
            expect.same("share of the first", 90, moves.share(90 * together, 0));
        }
    }

    /** Six of the strongest piles bear more together than the greatest load. */
    private static void greatestLoads(Expect expect) {
        PileMoves moves = new PileMoves();
        for (int pile = 0; pile < 6; pile++) {
            moves.pile(12, 10000, 1, 0);
            for (int piece = 0; piece < 12; piece++) {
                moves.ground(pile, piece, 1000, 100000);
            }
            moves.tip(pile, 1000, 1000000);
            moves.join(pile, true);
        }
        int settlement = moves.group(10000000);
        long at = 0;
        long further = 0;
        for (int pile = 0; pile < 6; pile++) {
            expect.same("a pile's share is its load", moves.load(pile, settlement), moves.share(10000000, pile));
            at += moves.load(pile, settlement);
            further += moves.load(pile, settlement + 1);
        }
        expect.yes("a settlement of 0 .. 9999", settlement >= 0 && settlement < 10000);
        expect.yes("at it not above the greatest load", at <= 10000000);
        expect.yes("above it one place on", further > 10000000);
        moves.join(5, false);
        moves.join(4, false);
        expect.same("four of them don't bear it", NONE, moves.group(10000000));
        expect.same("nor 4 times 2200000", NONE, moves.group(8800000));
        expect.yes("but one less", moves.group(8799999) >= 0);
    }

    /** Promise 13: the load AT the group's settlement, which need not add up to the load. */
    private static void shareAtItsSettlement(Expect expect) {
        PileMoves moves = piles(new int[] {10, 100}, new int[] {4, 1000});
        moves.join(0, true);
        moves.join(1, true);
        int[][] dues = {{0, 0, 0}, {13, 0, 0}, {14, 10, 4}, {139, 90, 36}, {140, 100, 40}, {143, 100, 40},
            {144, 100, 44}, {1099, 100, 996}, {1100, NONE, NONE}, {10000000, NONE, NONE}};
        for (int[] due : dues) {
            expect.same("the first under " + due[0], due[1], moves.share(due[0], 0));
            expect.same("the second under " + due[0], due[2], moves.share(due[0], 1));
        }
    }

    private static void groundToldAnew(Expect expect) {
        PileMoves moves = piles(new int[] {10, 1000});
        moves.join(0, true);
        expect.same("10 a place", 10, moves.group(100));
        moves.ground(0, 0, 20, 1000);
        expect.same("20 a place", 5, moves.group(100));
        moves.sinks(0, 0, 30);
        expect.same("from 30 on", 35, moves.group(100));
        moves.tip(0, 80, 100000);
        // At 7: 560 below, 20 * (7 - 30) at the side.
        expect.same("with a tip", 7, moves.group(100));
        expect.same("its share", 100, moves.share(100, 0));
    }
}
