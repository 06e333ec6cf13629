/**
 * Promises 2 to 15 on runs of calls made by a fixed row of numbers, each answer compared with SlowPiles.
 * No object is used for more than 512 calls: what later calls answer is free.
 */
final class SlowPilesTest {
    private static final int RUNS = 60;
    /** Each makes four calls at most, after the 98 at most that make the piles. */
    private static final int CALLS = 90;

    private final Expect expect;
    private final PileMoves fast = new PileMoves();
    private final SlowPiles slow = new SlowPiles();
    private final Numbers numbers;

    private SlowPilesTest(Expect expect, long seed) {
        this.expect = expect;
        numbers = new Numbers(seed);
    }

    public static void main(String[] args) {
        Expect expect = new Expect("SlowPilesTest");
        for (int run = 1; run <= RUNS; run++) {
            new SlowPilesTest(expect, run * 7919L).run();
        }
        expect.end();
    }

    private void run() {
        for (int pile = upTo(6); pile >= 0; pile--) {
            makePile();
        }
        for (int call = 0; call < CALLS && slow.count > 0; call++) {
            oneCall(upTo(slow.count - 1));
        }
    }

    private int upTo(int most) {
        return numbers.upTo(most);
    }

    private int number(int least, int most) {
        return numbers.number(least, most);
    }

    private void makePile() {
        int pieces = number(1, 12);
        int spring = number(1, 10000);
        int mass = number(1, 1000);
        int cost = upTo(3) * 1000;
        if (slow.count == 6) {
            expect.illegalState("a seventh pile", () -> fast.pile(pieces, spring, mass, cost));
            return;
        }
        int number = slow.count;
        expect.same("pile", number, fast.pile(pieces, spring, mass, cost));
        slow.pile(pieces, spring, mass, cost);
        for (int i = 0; i < pieces; i++) {
            changeGround(number, i);
        }
        changeTip(number);
    }

    private void changeGround(int pile, int piece) {
        int stiff = number(0, 1000);
        int most = number(0, 100000);
        fast.ground(pile, piece, stiff, most);
        slow.piles[pile].ground[piece][0] = stiff;
        slow.piles[pile].ground[piece][1] = most;
        slow.changed(pile);
    }

    private void changeSinks(int pile, int piece) {
        int v = number(0, 10000);
        expect.same("sinks", slow.piles[pile].ground[piece][2], fast.sinks(pile, piece, v));
        slow.piles[pile].ground[piece][2] = v;
        slow.changed(pile);
    }

    private void changeTip(int pile) {
        int stiff = number(0, 1000);
        int most = number(0, 1000000);
        fast.tip(pile, stiff, most);
        slow.piles[pile].tip[0] = stiff;
        slow.piles[pile].tip[1] = most;
        slow.changed(pile);
    }

    /** Mostly a load that the piles nearly bear. */
    private int aLoad() {
        int pile = upTo(slow.count - 1);
        int kind = upTo(3);
        if (kind == 0) {
            return number(0, 10000000);
        }
        long load = Math.max(0, slow.load(pile, upTo(kind == 1 ? 300 : 20000)));
        return (int) Math.max(0, Math.min(10000000, load + upTo(4) - 2));
    }

    private void oneCall(int pile) {
        int piece = upTo(slow.piles[pile].ground.length - 1);
        switch (upTo(13)) {
            case 0: changeGround(pile, piece); break;
            case 1: changeSinks(pile, piece); break;
            case 2: changeTip(pile); break;
            case 3: case 4: compareUnder(pile); break;
            case 5: comparePiece(pile, piece); break;
            case 6: case 7: compareLoad(pile); break;
            case 8: compareCheapest(); break;
            case 9: case 10: compareGroup(pile); break;
            case 11: compareShare(pile); break;
            case 12: compareBlow(pile); break;
            default: compareHold(pile); break;
        }
        compareWave();
    }

    private void compareUnder(int pile) {
        int load = aLoad();
        expect.same("under(" + pile + ", " + load + ")", slow.under(pile, load), fast.under(pile, load));
    }

    private void comparePiece(int pile, int piece) {
        int load = aLoad();
        for (int what = 0; what < 3; what++) {
            expect.same("piece(" + pile + ", " + load + ", " + piece + ", " + what + ")",
                    slow.piece(pile, load, piece, what), fast.piece(pile, load, piece, what));
        }
    }

    private void compareLoad(int pile) {
        int settlement = upTo(1) == 0 ? number(0, 100000) : -number(0, 100000);
        expect.same("load(" + pile + ", " + settlement + ")",
                slow.load(pile, settlement), fast.load(pile, settlement));
    }

    private void compareHold(int pile) {
        expect.same("hold(" + pile + ")", slow.hold(pile), fast.hold(pile));
    }

    private void compareCheapest() {
        int load = aLoad();
        int most = number(0, 100000);
        expect.same("cheapest(" + load + ", " + most + ")", slow.cheapest(load, most), fast.cheapest(load, most));
    }

    private void compareGroup(int pile) {
        boolean is = upTo(3) > 0;
        expect.same("join(" + pile + ", " + is + ")", slow.piles[pile].in ? 1 : 0, fast.join(pile, is) ? 1 : 0);
        slow.piles[pile].in = is;
        int load = aLoad();
        if (slow.empty()) {
            expect.illegalState("group(" + load + ")", () -> fast.group(load));
        } else {
            expect.same("group(" + load + ")", slow.group(load), fast.group(load));
        }
    }

    private void compareShare(int pile) {
        int load = aLoad();
        if (slow.empty()) {
            expect.illegalState("share(" + load + ", " + pile + ")", () -> fast.share(load, pile));
        } else if (!slow.piles[pile].in) {
            expect.illegalArgument("share(" + load + ", " + pile + ")", () -> fast.share(load, pile));
        } else {
            expect.same("share(" + load + ", " + pile + ")", slow.share(load, pile), fast.share(load, pile));
        }
    }

    private void compareBlow(int pile) {
        int hammer = number(1, 10000);
        int speed = number(1, 1000);
        expect.same("blow(" + pile + ", " + hammer + ", " + speed + ")",
                slow.blow(pile, hammer, speed), fast.blow(pile, hammer, speed));
        compareWave();
        compareWave();
    }

    private void compareWave() {
        int round = upTo(199);
        int piece = upTo(slow.struckPieces());
        if (slow.struckPieces() == 0) {
            expect.illegalState("wave(" + round + ", " + piece + ")", () -> fast.wave(round, piece));
        } else {
            expect.same("wave(" + round + ", " + piece + ")", slow.wave(round, piece), fast.wave(round, piece));
        }
    }
}
