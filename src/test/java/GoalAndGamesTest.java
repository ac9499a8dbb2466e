/** Promises 1 to 5: a new object, set, game, drop, win. */
public final class GoalAndGamesTest {
    private static void due(String call, long got, long want) {
        Check.due(call, got, want);
    }

    public static void main(String[] args) {
        newObject();
        setGoalAndHorizon();
        setForgetsTold();
        gameRefusals();
        gameIgnoresWhatIsNotLookedAt();
        gameFull();
        dropLatest();
        winOfKinds();
        winRefusals();
        Check.end();
    }

    private static void newObject() {
        StakeHouse x = new StakeHouse();
        due("new: count(0)", x.count(0), 8);
        due("new: count(1)", x.count(1), 4);
        due("new: count(2)", x.count(2), 0);
        due("new: trace()", x.trace(), 0);
        for (int p = 1; p < 8; p++) {
            due("new: tell(" + p + ", 0)", x.tell(p, 0), 0);
        }
        StakeHouse other = new StakeHouse();
        other.set(0, 20);
        other.game(0, 8, 0, 0, 1);
        due("new: another object's goal", x.count(0), 8);
        due("new: another object's games", x.count(2), 0);
    }

    private static void setGoalAndHorizon() {
        StakeHouse x = new StakeHouse();
        due("set(0, 2)", x.set(0, 2), 8);
        due("set(0, 32)", x.set(0, 32), 2);
        due("set(1, 0)", x.set(1, 0), 4);
        due("set(1, 12)", x.set(1, 12), 0);
        int[] badGoals = {1, 0, -1, 33, Integer.MIN_VALUE, Integer.MAX_VALUE};
        for (int v : badGoals) {
            due("set(0, " + v + ")", x.set(0, v), StakeHouse.BAD);
        }
        int[] badHorizons = {-1, 13, Integer.MIN_VALUE, Integer.MAX_VALUE};
        for (int v : badHorizons) {
            due("set(1, " + v + ")", x.set(1, v), StakeHouse.BAD);
        }
        int[] badWhats = {-1, 2, Integer.MIN_VALUE, Integer.MAX_VALUE};
        for (int what : badWhats) {
            due("set(" + what + ", 4)", x.set(what, 4), StakeHouse.BAD);
        }
        due("goal after refusals", x.count(0), 32);
        due("horizon after refusals", x.count(1), 12);
    }

    private static void setForgetsTold() {
        StakeHouse x = new StakeHouse();
        x.set(0, 32);
        x.tell(5, 3);
        x.tell(31, 30);
        due("refused set(0, 33)", x.set(0, 33), StakeHouse.BAD);
        due("told is kept behind a refusal", x.tell(5, 3), 3);
        x.set(1, 7);
        due("told is kept behind a new horizon", x.tell(5, 3), 3);
        x.set(0, 8);
        due("told is 0 behind a new goal", x.tell(5, 4), 0);
        x.set(0, 32);
        due("told is 0 beyond the smaller goal too", x.tell(31, 2), 0);
        due("set(0, 32) to what it was", x.set(0, 32), 32);
        due("told is 0 behind the same goal", x.tell(31, 0), 0);
    }

    private static void gameRefusals() {
        StakeHouse x = new StakeHouse();
        int[][] bad = {
            {-1, 8, 1, 0, 1}, {3, 8, 1, 0, 1}, {Integer.MIN_VALUE, 8, 1, 0, 1},
            {0, -1, 1, 0, 1}, {0, 17, 1, 0, 1}, {2, Integer.MAX_VALUE, 1, 0, 1},
            {1, 8, 0, 0, 1}, {1, 8, 10, 0, 1}, {2, 8, 0, 0, 1}, {2, 8, 10, 0, 1}, {2, 8, -1, 0, 1},
            {2, 8, 1, -1, 1}, {2, 8, 1, 11, 1},
            {0, 8, 1, 0, 0}, {0, 8, 1, 0, 33}, {1, 8, 1, 0, -1}, {2, 8, 1, 0, Integer.MAX_VALUE},
        };
        for (int[] g : bad) {
            due("game(" + g[0] + ", " + g[1] + ", " + g[2] + ", " + g[3] + ", " + g[4] + ")",
                x.game(g[0], g[1], g[2], g[3], g[4]), StakeHouse.BAD);
        }
        due("games after refusals", x.count(2), 0);
    }

    private static void gameIgnoresWhatIsNotLookedAt() {
        StakeHouse x = new StakeHouse();
        due("EVEN with any times", x.game(0, 0, Integer.MIN_VALUE, Integer.MAX_VALUE, 32), 0);
        due("LONG with any tax", x.game(1, 16, 9, -7, 1), 1);
        due("win of EVEN", x.win(0, 7), 7);
        due("win of LONG", x.win(1, 7), 63);
    }

    private static void gameFull() {
        StakeHouse x = new StakeHouse();
        for (int i = 0; i < 4; i++) {
            due("game " + i, x.game(i % 3, 8, 1, 0, 32), i);
        }
        due("a fifth game", x.game(0, 8, 1, 0, 32), StakeHouse.FULL);
        due("a bad fifth game: BAD comes first", x.game(0, 17, 1, 0, 32), StakeHouse.BAD);
        due("games when full", x.count(2), 4);
        due("drop()", x.drop(), 3);
        due("a game in the place of the dropped", x.game(1, 8, 5, 0, 32), 3);
        due("its win", x.win(3, 2), 10);
    }

    private static void dropLatest() {
        StakeHouse x = new StakeHouse();
        due("drop() of none", x.drop(), StakeHouse.STATE);
        x.game(0, 8, 1, 0, 32);
        x.game(1, 8, 3, 0, 32);
        x.tell(4, 2);
        due("drop()", x.drop(), 1);
        due("the latest is gone", x.win(1, 1), StakeHouse.BAD);
        due("the first is left", x.win(0, 9), 9);
        due("told is kept behind drop", x.tell(4, 2), 2);
        due("drop() of the last", x.drop(), 0);
        due("drop() of none again", x.drop(), StakeHouse.STATE);
        due("games", x.count(2), 0);
    }

    private static void winOfKinds() {
        StakeHouse x = new StakeHouse();
        x.game(0, 8, 9, 9, 1);
        x.game(1, 8, 4, 9, 1);
        x.game(2, 8, 1, 5, 1);
        x.game(2, 8, 3, 10, 1);
        due("EVEN, above the limit", x.win(0, 32), 32);
        due("EVEN 1", x.win(0, 1), 1);
        due("LONG 8 times 4", x.win(1, 8), 32);
        due("LONG 32 times 4", x.win(1, 32), 128);
        due("TAXED 1 less 5 tenths: the tax is rounded down", x.win(2, 1), 1);
        due("TAXED 3 less 5 tenths", x.win(2, 3), 2);
        due("TAXED 4 less 5 tenths", x.win(2, 4), 2);
        due("TAXED less ten tenths", x.win(3, 32), 0);
        x.drop();
        x.game(2, 8, 9, 0, 1);
        due("TAXED less none", x.win(3, 32), 288);
        x.drop();
        x.game(2, 8, 7, 9, 1);
        due("TAXED 21 less 18.9, rounded down to 18", x.win(3, 3), 3);
    }

    private static void winRefusals() {
        StakeHouse x = new StakeHouse();
        due("win of no game", x.win(0, 1), StakeHouse.BAD);
        x.game(0, 8, 1, 0, 32);
        int[] badStakes = {0, -1, 33, Integer.MIN_VALUE, Integer.MAX_VALUE};
        for (int s : badStakes) {
            due("win(0, " + s + ")", x.win(0, s), StakeHouse.BAD);
        }
        int[] badGames = {-1, 1, 4, Integer.MIN_VALUE, Integer.MAX_VALUE};
        for (int g : badGames) {
            due("win(" + g + ", 1)", x.win(g, 1), StakeHouse.BAD);
        }
        due("trace after refusals", x.trace(), 0);
    }
}
