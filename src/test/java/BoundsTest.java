/** "In all calls illegal argument: a number is out of its bounds, there is no such pile or piece." */
final class BoundsTest {
    public static void main(String[] args) {
        Expect expect = new Expect("BoundsTest");
        for (Calls.One call : Calls.ALL) {
            eachNumber(expect, call);
        }
        pilesAsTheyCome(expect);
        piecesOfEachPile(expect);
        expect.end();
    }

    /** One below the least, the least, the greatest, one above the greatest, and far out, each on a new object. */
    private static void eachNumber(Expect expect, Calls.One call) {
        for (int place = 0; place < call.bounds().length; place++) {
            for (int within : call.bounds()[place]) {
                int[] numbers = call.with(place, within);
                expect.answers(call.told(numbers), () -> call.answer(Calls.fresh(), numbers));
            }
            for (int outside : Calls.outside(call.bounds()[place])) {
                int[] numbers = call.with(place, outside);
                expect.illegalArgument(call.told(numbers), () -> call.answer(Calls.fresh(), numbers));
            }
        }
    }

    /** Of 0 .. 6 piles the last is there and the next is not, in every call that names one. */
    private static void pilesAsTheyCome(Expect expect) {
        for (int count = 0; count <= 6; count++) {
            PileMoves moves = new PileMoves();
            for (int pile = 0; pile < count; pile++) {
                moves.pile(Calls.PIECES, 5, 6, 7);
            }
            for (Calls.One call : Calls.ALL) {
                int place = placeOf(call, Calls.PILE);
                if (place < 0) {
                    continue;
                }
                int[] next = call.with(place, count);
                expect.illegalArgument("with " + count + " piles " + call.told(next), () -> call.answer(moves, next));
                if (count > 0) {
                    moves.join(count - 1, true);
                    int[] last = call.with(place, count - 1);
                    expect.answers("with " + count + " piles " + call.told(last), () -> call.answer(moves, last));
                }
            }
        }
    }

    /** A pile of n pieces has a piece n - 1 and none n, whatever the other piles have. */
    private static void piecesOfEachPile(Expect expect) {
        PileMoves moves = new PileMoves();
        int[] pieces = {12, 1, 7, 2};
        for (int n : pieces) {
            moves.pile(n, 5, 6, 7);
        }
        for (int pile = 0; pile < pieces.length; pile++) {
            int number = pile;
            int last = pieces[pile] - 1;
            for (Calls.One call : Calls.ALL) {
                int place = placeOf(call, Calls.PIECE);
                if (place < 0) {
                    continue;
                }
                int[] there = call.with(place, last);
                int[] gone = call.with(place, last + 1);
                there[0] = number;
                gone[0] = number;
                expect.answers(call.told(there), () -> call.answer(moves, there));
                expect.illegalArgument(call.told(gone), () -> call.answer(moves, gone));
            }
            moves.blow(number, 1, 1);
            expect.answers("the hammer of pile " + number, () -> moves.wave(0, last + 1));
            expect.illegalArgument("behind the hammer of pile " + number, () -> moves.wave(0, last + 2));
        }
    }

    private static int placeOf(Calls.One call, int[] kind) {
        for (int place = 0; place < call.bounds().length; place++) {
            if (call.bounds()[place] == kind) {
                return place;
            }
        }
        return -1;
    }
}
