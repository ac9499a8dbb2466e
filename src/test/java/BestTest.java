/** Promises 6 to 8: best, stakes, mean. */
public final class BestTest {
    private static void due(String call, long got, long want) {
        Check.due(call, got, want);
    }

    public static void main(String[] args) {
        refusals();
        noGames();
        noTurns();
        oneTurn();
        twoTurns();
        endsAreNotPlayed();
        lettingItGoBy();
        stakeThirtyOne();
        stakesOfSeveralGames();
        answersFollowChanges();
        longestHorizon();
        meanOfTurns();
        bestTurnByTurn();
        meanTurnByTurn();
        Check.end();
    }

    private static void refusals() {
        StakeHouse x = new StakeHouse();
        x.game(0, 8, 0, 0, 32);
        int[][] badSpots = {{-1, 1}, {9, 1}, {3, -1}, {3, 5}, {Integer.MIN_VALUE, 1},
            {Integer.MAX_VALUE, 1}, {3, Integer.MIN_VALUE}, {3, Integer.MAX_VALUE}};
        for (int[] b : badSpots) {
            String spot = "(" + b[0] + ", " + b[1] + ")";
            due("best" + spot, x.best(b[0], b[1]), StakeHouse.BAD);
            due("mean" + spot, x.mean(b[0], b[1]), StakeHouse.BAD);
            due("stakes of game 0 at " + spot, x.stakes(0, b[0], b[1]), StakeHouse.BAD);
        }
        due("stakes by no turns", x.stakes(0, 3, 0), StakeHouse.BAD);
        due("stakes by no turns at the goal", x.stakes(0, 8, 0), StakeHouse.BAD);
        int[] badGames = {-1, 1, 4, Integer.MIN_VALUE, Integer.MAX_VALUE};
        for (int g : badGames) {
            due("stakes(" + g + ", 3, 1)", x.stakes(g, 3, 1), StakeHouse.BAD);
            due("stakes(" + g + ", 8, 1)", x.stakes(g, 8, 1), StakeHouse.BAD);
        }
    }

    private static void noGames() {
        StakeHouse x = new StakeHouse();
        due("best, no games", x.best(3, 4), StakeHouse.STATE);
        due("mean, no games", x.mean(3, 4), StakeHouse.STATE);
        due("best at the goal, no games", x.best(8, 0), StakeHouse.STATE);
        due("mean at 0, no games", x.mean(0, 0), StakeHouse.STATE);
        due("best, no games, bad purse: BAD comes first", x.best(9, 4), StakeHouse.BAD);
        due("best, no games, bad turns: BAD comes first", x.best(3, 5), StakeHouse.BAD);
        due("mean, no games, bad purse: BAD comes first", x.mean(-1, 4), StakeHouse.BAD);
        due("mean, no games, bad turns: BAD comes first", x.mean(3, -1), StakeHouse.BAD);
        due("stakes, no games", x.stakes(0, 3, 4), StakeHouse.BAD);
        x.game(0, 8, 0, 0, 1);
        x.drop();
        due("best, games dropped", x.best(3, 4), StakeHouse.STATE);
        due("mean, games dropped", x.mean(3, 4), StakeHouse.STATE);
    }

    private static void noTurns() {
        StakeHouse x = new StakeHouse();
        x.game(0, 16, 0, 0, 32);
        for (int p = 0; p <= 8; p++) {
            due("best(" + p + ", 0)", x.best(p, 0), p == 8 ? 1 : 0);
            due("mean(" + p + ", 0)", x.mean(p, 0), p);
        }
    }

    private static void oneTurn() {
        StakeHouse x = new StakeHouse();
        x.game(0, 5, 0, 0, 3);
        due("best(4, 1): the limit is in the way", x.best(4, 1), 0);
        due("best(5, 1)", x.best(5, 1), 5);
        due("stakes(0, 5, 1)", x.stakes(0, 5, 1), 1L << 3);
        due("stakes(0, 6, 1): 2 and 3 do", x.stakes(0, 6, 1), 1L << 2 | 1L << 3);
        due("stakes(0, 7, 1)", x.stakes(0, 7, 1), 1L << 1 | 1L << 2 | 1L << 3);
        due("stakes(0, 4, 1): all are as good as none", x.stakes(0, 4, 1), 15);
        due("stakes(0, 2, 1): purse at most", x.stakes(0, 2, 1), 7);
    }

    private static void twoTurns() {
        StakeHouse x = new StakeHouse();
        x.game(0, 5, 0, 0, 32);
        // From 4 by two turns: win with 4 at once, or 4 down to 0: 5 of 16; or
        // 2 to 6 and 2 again: 25 + 0 of 256; or wait: 80 of 256.
        due("best(4, 2)", x.best(4, 2), 80);
        due("stakes(0, 4, 2)", x.stakes(0, 4, 2), 1L | 1L << 4);
        due("best(2, 2)", x.best(2, 2), 25);
        due("stakes(0, 2, 2)", x.stakes(0, 2, 2), 1L << 2);
        // From 6: 2 wins at once, else 4 is left and may win: 5 * 16 + 11 * 5.
        due("best(6, 2)", x.best(6, 2), 135);
        due("stakes(0, 6, 2)", x.stakes(0, 6, 2), 1L << 2);
    }

    private static void endsAreNotPlayed() {
        StakeHouse x = new StakeHouse();
        x.game(0, 0, 0, 0, 32);
        for (int t = 1; t <= 4; t++) {
            due("best at 0", x.best(0, t), 0);
            due("best at the goal", x.best(8, t), 1L << 4 * t);
            due("mean at 0", x.mean(0, t), 0);
            due("mean at the goal", x.mean(8, t), 8L << 4 * t);
            due("stakes at 0", x.stakes(0, 0, t), 0);
            due("stakes at the goal", x.stakes(0, 8, t), 0);
        }
    }

    private static void lettingItGoBy() {
        StakeHouse x = new StakeHouse();
        x.game(0, 0, 0, 0, 32);
        due("mean of a game that never wins", x.mean(5, 3), 5L << 12);
        due("best of a game that never wins", x.best(5, 3), 0);
        due("stakes: all bring 0", x.stakes(0, 5, 3), 63);
        x.drop();
        x.game(2, 16, 1, 10, 32);
        due("mean of a game that wins 0 for sure", x.mean(5, 3), 5L << 12);
    }

    private static void stakeThirtyOne() {
        StakeHouse x = new StakeHouse();
        x.set(0, 32);
        x.game(0, 3, 0, 0, 32);
        due("stakes(0, 31, 1): 1 .. 31", x.stakes(0, 31, 1), 0xFFFFFFFEL);
        due("stakes(0, 15, 1): nothing reaches", x.stakes(0, 15, 1), 0xFFFFL);
        due("stakes(0, 16, 1)", x.stakes(0, 16, 1), 1L << 16);
    }

    private static void stakesOfSeveralGames() {
        StakeHouse x = new StakeHouse();
        x.game(0, 8, 0, 0, 32);
        x.game(1, 8, 3, 0, 32);
        x.game(0, 7, 0, 0, 32);
        due("best(4, 1)", x.best(4, 1), 8);
        due("stakes(0, 4, 1)", x.stakes(0, 4, 1), 1L << 4);
        due("stakes(1, 4, 1)", x.stakes(1, 4, 1), 1L << 2 | 1L << 3 | 1L << 4);
        due("stakes(2, 4, 1): its best is not the best", x.stakes(2, 4, 1), 0);
        due("stakes(2, 1, 1): none does, nor any other", x.stakes(2, 1, 1), 3);
    }

    private static void answersFollowChanges() {
        StakeHouse x = new StakeHouse();
        x.game(0, 8, 0, 0, 32);
        due("best(4, 1)", x.best(4, 1), 8);
        due("mean(4, 1)", x.mean(4, 1), 64);
        x.game(0, 12, 0, 0, 32);
        due("best with a second game", x.best(4, 1), 12);
        due("mean with a second game", x.mean(4, 1), 96);
        x.drop();
        x.game(0, 10, 0, 0, 32);
        due("best with another second game", x.best(4, 1), 10);
        due("mean with another second game", x.mean(4, 1), 80);
        x.set(0, 9);
        due("best with a new goal", x.best(4, 1), 0);
        due("best(5, 1) with a new goal", x.best(5, 1), 10);
        // Stake 4: 10 * 9 + 6 * 1.
        due("mean(5, 1) with a new goal", x.mean(5, 1), 96);
        x.drop();
        due("best with the second dropped", x.best(5, 1), 8);
        x.set(1, 5);
        due("best by five turns, when the horizon lets it", x.best(9, 5), 1L << 20);
        x.set(1, 4);
        due("best by five turns, beyond the horizon", x.best(9, 5), StakeHouse.BAD);
    }

    private static void longestHorizon() {
        StakeHouse x = new StakeHouse();
        x.set(0, 32);
        x.set(1, 12);
        x.game(0, 16, 0, 0, 1);
        due("a sure game, one a turn, twelve turns", x.best(20, 12), 1L << 48);
        due("one short", x.best(19, 12), 0);
        due("stakes where no turn is over", x.stakes(0, 20, 12), 2);
        due("stakes where a turn is over", x.stakes(0, 21, 12), 3);
        due("mean(20, 12)", x.mean(20, 12), 32L << 48);
        due("mean(5, 12)", x.mean(5, 12), 17L << 48);
    }

    private static void meanOfTurns() {
        StakeHouse x = new StakeHouse();
        x.game(1, 8, 2, 0, 32);
        // Of stakes 1, 2, 3 at 3: 8 * 5 + 8 * 2; 8 * 7 + 8 * 1; 8 * 8 + 0.
        due("mean(3, 1)", x.mean(3, 1), 64);
        due("mean(7, 1): the goal cuts it, and it is let go by", x.mean(7, 1), 112);
        due("mean(1, 1)", x.mean(1, 1), 24);
        due("mean(1, 2)", x.mean(1, 2), 8 * 64);
    }

    /** "whatever is staked, TURN by TURN, as one sees what came": each turn may have another game. */
    private static void bestTurnByTurn() {
        StakeHouse x = new StakeHouse();
        x.game(0, 16, 0, 0, 1);
        x.game(0, 4, 0, 0, 4);
        // From 3 by two: a sure step to 4, then all 4 in the other game.
        due("best(3, 2) by both games", x.best(3, 2), 16 * 4);
        due("stakes(0, 3, 2): the sure step first", x.stakes(0, 3, 2), 1L << 1);
        due("stakes(1, 3, 2): none of the other game does", x.stakes(1, 3, 2), 0);
        due("stakes(0, 4, 1): then none of the sure game does", x.stakes(0, 4, 1), 0);
        due("stakes(1, 4, 1): then all of it", x.stakes(1, 4, 1), 1L << 4);
        // From 4 by three: 2 in the other game. At 6 two sure steps are left,
        // at 2 twice all of it: what came tells which game is next.
        due("best(4, 3) by what came", x.best(4, 3), 4 * 256 + 12 * 16);
        due("stakes(0, 4, 3)", x.stakes(0, 4, 3), 0);
        due("stakes(1, 4, 3)", x.stakes(1, 4, 3), 1L << 2);
        due("stakes(0, 6, 2): behind a won turn", x.stakes(0, 6, 2), 1L << 1);
        due("stakes(1, 6, 2): behind a won turn", x.stakes(1, 6, 2), 0);
        due("stakes(0, 2, 2): behind a lost turn", x.stakes(0, 2, 2), 0);
        due("stakes(1, 2, 2): behind a lost turn", x.stakes(1, 2, 2), 1L << 2);
        x.drop();
        due("best(4, 3) by sure steps alone", x.best(4, 3), 0);
    }

    /** The same of MEAN: "the greatest sum, over what may come, of PURSES then times chances". */
    private static void meanTurnByTurn() {
        StakeHouse x = new StakeHouse();
        x.game(0, 16, 0, 0, 1);
        x.game(0, 12, 0, 0, 32);
        due("mean(7, 1): the sure step", x.mean(7, 1), 16 * 8);
        due("mean(3, 1): all 3 in the other game", x.mean(3, 1), 12 * 6);
        // From 5: 2 in the other game; a sure step at 7, all 3 at 3.
        due("mean(5, 2) by what came", x.mean(5, 2), 12 * 128 + 4 * 72);
        x.drop();
        due("mean(5, 2) by sure steps alone", x.mean(5, 2), 7 * 256);
    }
}
