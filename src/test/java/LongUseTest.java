/** "An object is used for at most 512 calls": so the 512th still answers as it is due. */
final class LongUseTest {
    private static final int CALLS = 512;

    public static void main(String[] args) {
        Expect expect = new Expect("LongUseTest");
        blows(expect);
        sinks(expect);
        refused(expect);
        expect.end();
    }

    /** A pile, a group, then blows to the end, each followed by a look. */
    private static void blows(Expect expect) {
        PileMoves moves = new PileMoves();
        moves.pile(1, 1, 1, 0);
        moves.join(0, true);
        for (int call = 3; call + 1 <= CALLS; call += 2) {
            expect.same("blow, call " + call, 1990, moves.blow(0, 1, 1));
            expect.same("wave, call " + (call + 1), 1980, moves.wave(198, 0));
        }
    }

    private static void sinks(Expect expect) {
        PileMoves moves = new PileMoves();
        moves.pile(1, 1, 1, 0);
        moves.ground(0, 0, 1, 100000);
        int before = 0;
        for (int call = 3; call + 1 <= CALLS; call += 2) {
            expect.same("sinks, call " + call, before, moves.sinks(0, 0, call));
            expect.same("under, call " + (call + 1), call + 9, moves.under(0, 9));
            before = call;
        }
    }

    private static void refused(Expect expect) {
        PileMoves moves = new PileMoves();
        for (int call = 1; call <= 6; call++) {
            moves.pile(1, 1, 1, 0);
        }
        for (int call = 7; call < CALLS; call++) {
            expect.illegalState("a seventh pile, call " + call, () -> moves.pile(1, 1, 1, 0));
        }
        expect.same("the last call", 0, moves.hold(5));
    }
}
