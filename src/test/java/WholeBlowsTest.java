/**
 * Promises 14 and 15: blows with all their waves, compared with SlowPiles. No object may be asked for all of them
 * (it serves 512 calls), so each tells some rounds of a blow that its twins are struck with, too.
 */
final class WholeBlowsTest {
    private static final int BLOWS = 120;
    /** So many rounds of a blow to twelve pieces are 390 calls. */
    private static final int ROUNDS_AN_OBJECT = 30;

    public static void main(String[] args) {
        Expect expect = new Expect("WholeBlowsTest");
        for (int run = 1; run <= BLOWS; run++) {
            anyBlow(expect, new Numbers(run * 104729L));
        }
        farPlaces(expect);
        expect.end();
    }

    private static void anyBlow(Expect expect, Numbers numbers) {
        SlowPiles slow = new SlowPiles();
        int pieces = numbers.number(1, 12);
        slow.pile(pieces, numbers.number(1, 10000), numbers.number(1, 1000), 0);
        for (int[] ground : slow.piles[0].ground) {
            ground[0] = numbers.number(0, 1000);
            ground[1] = numbers.number(0, 100000);
            ground[2] = numbers.number(0, 10000);
        }
        slow.piles[0].tip[0] = numbers.number(0, 1000);
        slow.piles[0].tip[1] = numbers.number(0, 1000000);
        compare(expect, slow, numbers.number(1, 10000), numbers.number(1, 1000));
    }

    /** Springs that throw light pieces so far that STIFF times a place is no int any more. */
    private static void farPlaces(Expect expect) {
        int[][] rows = {
            // mass, spring, the ground of two pieces, tip, hammer, speed
            {4, 3000, 1000, 100000, 0, 10, 1000, 1000000, 10000, 1000},
            {2, 3000, 0, 10, 1000, 10, 1000, 1000000, 10000, 1000},
            {2, 3000, 1000, 100000, 1000, 1000, 0, 0, 10000, 500},
            {5, 10000, 0, 100000, 1000, 1000, 1000, 1000000, 3, 1000}};
        for (int[] row : rows) {
            SlowPiles slow = new SlowPiles();
            slow.pile(2, row[1], row[0], 0);
            slow.piles[0].ground[0] = new int[] {row[2], row[3], 0};
            slow.piles[0].ground[1] = new int[] {row[4], row[5], 0};
            slow.piles[0].tip = new int[] {row[6], row[7]};
            compare(expect, slow, row[8], row[9]);
        }
    }

    private static void compare(Expect expect, SlowPiles slow, int hammer, int speed) {
        long set = slow.blow(0, hammer, speed);
        for (int first = 0; first < 200; first += ROUNDS_AN_OBJECT) {
            PileMoves twin = twin(slow.piles[0]);
            expect.same("the set", set, twin.blow(0, hammer, speed));
            for (int round = first; round < 200 && round < first + ROUNDS_AN_OBJECT; round++) {
                for (int i = 0; i <= slow.struckPieces(); i++) {
                    expect.same("wave(" + round + ", " + i + ")", slow.wave(round, i), twin.wave(round, i));
                }
            }
        }
    }

    private static PileMoves twin(SlowPiles.One one) {
        PileMoves twin = new PileMoves();
        twin.pile(one.ground.length, one.spring, one.mass, one.cost);
        for (int i = 0; i < one.ground.length; i++) {
            twin.ground(0, i, one.ground[i][0], one.ground[i][1]);
            twin.sinks(0, i, one.ground[i][2]);
        }
        twin.tip(0, one.tip[0], one.tip[1]);
        return twin;
    }
}
