import java.util.ArrayList;
import java.util.List;

/** "A call that throws changes nothing": after it an object answers all that can be asked as its twin does. */
final class UnchangedTest {
    private static final int[] LOADS = {0, 35, 120, 260, 10000000};
    private static final int[] SETTLEMENTS = {-30, 0, 4, 9, 60, 10000};

    public static void main(String[] args) {
        Expect expect = new Expect("UnchangedTest");
        outOfBounds(expect);
        sixPiles(expect);
        emptyGroup(expect);
        notInTheGroup(expect);
        noBlow(expect);
        expect.end();
    }

    private static void outOfBounds(Expect expect) {
        List<Long> due = look(Calls.fresh());
        for (Calls.One call : Calls.ALL) {
            for (int place = 0; place < call.bounds().length; place++) {
                for (int outside : Calls.outside(call.bounds()[place])) {
                    int[] numbers = call.with(place, outside);
                    PileMoves moves = Calls.fresh();
                    expect.illegalArgument(call.told(numbers), () -> call.answer(moves, numbers));
                    compare(expect, call.told(numbers), due, look(moves));
                }
            }
        }
    }

    private static void sixPiles(Expect expect) {
        PileMoves twin = Calls.fresh();
        PileMoves moves = Calls.fresh();
        twin.pile(1, 2, 3, 0);
        moves.pile(1, 2, 3, 0);
        expect.illegalState("a seventh pile", () -> moves.pile(12, 9, 9, 9));
        expect.illegalArgument("a seventh pile that can't be", () -> moves.pile(12, 9, 9, -9));
        expect.illegalState("a seventh pile again", () -> moves.pile(1, 1, 1, 0));
        compare(expect, "a seventh pile", look(twin), look(moves));
    }

    private static void emptyGroup(Expect expect) {
        PileMoves twin = allLeft();
        PileMoves moves = allLeft();
        expect.illegalState("group of none", () -> moves.group(50));
        expect.illegalState("share of none", () -> moves.share(50, 3));
        expect.illegalArgument("share of none, no such pile", () -> moves.share(50, 5));
        compare(expect, "an empty group", look(twin), look(moves));
    }

    private static PileMoves allLeft() {
        PileMoves moves = Calls.fresh();
        for (int pile = 0; pile < Calls.PILES; pile++) {
            moves.join(pile, false);
        }
        return moves;
    }

    private static void notInTheGroup(Expect expect) {
        PileMoves twin = Calls.fresh();
        PileMoves moves = Calls.fresh();
        twin.join(3, false);
        moves.join(3, false);
        expect.illegalArgument("share of one that left", () -> moves.share(50, 3));
        compare(expect, "a pile that is not in the group", look(twin), look(moves));
    }

    private static void noBlow(Expect expect) {
        PileMoves moves = new PileMoves();
        moves.pile(2, 3, 4, 5);
        expect.illegalState("a wave without a blow", () -> moves.wave(0, 0));
        expect.illegalState("a wave without a blow, far out", () -> moves.wave(-1, 99));
        expect.illegalArgument("a blow of no hammer", () -> moves.blow(0, 0, 1));
        expect.illegalState("still no blow", () -> moves.wave(0, 0));
        expect.same("one pile, as before", 1, moves.pile(1, 1, 1, 0));
    }

    private static void compare(Expect expect, String what, List<Long> due, List<Long> got) {
        expect.same("after " + what + ": answers", due.size(), got.size());
        for (int i = 0; i < due.size() && i < got.size(); i++) {
            expect.same("after " + what + ": answer " + i, due.get(i), got.get(i));
        }
    }

    /** Asks for all that can be seen of an object with five piles or more, the questions that change it last. */
    private static List<Long> look(PileMoves moves) {
        List<Long> seen = new ArrayList<>();
        waves(seen, moves);
        for (int load : LOADS) {
            seen.add(answer(() -> moves.cheapest(load, 20)));
            seen.add(answer(() -> moves.group(load)));
        }
        for (int i = 0; i < Calls.PILES; i++) {
            states(seen, moves, i);
        }
        for (int i = 0; i < Calls.PILES; i++) {
            changing(seen, moves, i);
        }
        seen.add(answer(() -> moves.pile(1, 1, 1, 0)));
        seen.add(answer(() -> moves.pile(1, 1, 1, 0)));
        return seen;
    }

    private static void waves(List<Long> seen, PileMoves moves) {
        for (int piece = 0; piece <= Calls.PIECES; piece++) {
            int one = piece;
            for (int round : new int[] {1, 40, 199}) {
                seen.add(answer(() -> moves.wave(round, one)));
            }
        }
    }

    private static void states(List<Long> seen, PileMoves moves, int pile) {
        for (int load : LOADS) {
            seen.add(answer(() -> moves.under(pile, load)));
            seen.add(answer(() -> moves.piece(pile, load, 1, 1)));
            seen.add(answer(() -> moves.share(load, pile)));
        }
        for (int settlement : SETTLEMENTS) {
            seen.add(answer(() -> moves.load(pile, settlement)));
        }
        seen.add(answer(() -> moves.hold(pile)));
    }

    private static void changing(List<Long> seen, PileMoves moves, int pile) {
        seen.add(answer(() -> moves.blow(pile, 70, 80)));
        waves(seen, moves);
        for (int piece = 0; piece < Calls.PIECES; piece++) {
            int one = piece;
            seen.add(answer(() -> moves.sinks(pile, one, 0)));
        }
        seen.add(answer(() -> moves.join(pile, false) ? 1 : 0));
    }

    private static Long answer(Expect.Call call) {
        try {
            return call.answer();
        } catch (IllegalArgumentException thrown) {
            return Long.MIN_VALUE;
        } catch (IllegalStateException thrown) {
            return Long.MAX_VALUE;
        }
    }
}
