/**
 * "Refused, and nothing changes, the first of these: BAD (a number is not as
 * told, or there is no such thing), STATE (as told), FULL." Promise by promise:
 * what is just taken, what is just refused, and what is left as it was.
 */
public final class RefusalsTest {
    private static final int BAD = StakeHouse.BAD;
    private static final int STATE = StakeHouse.STATE;
    private static final int FULL = StakeHouse.FULL;

    public static void main(String[] args) {
        newObject();
        setWhat();
        setGoalClearsTold();
        refusedSetKeepsTold();
        gameNumbersNotLookedAt();
        gameBadAheadOfFull();
        gameFullAgainAndAgain();
        dropOfNone();
        dropTakesTheLatest();
        winOfNoSuchGame();
        bestOfPurses();
        meanOfPurses();
        noGamesIsAState();
        badAheadOfState();
        stakesOfNoSuchThing();
        stakesThatNoneHas();
        tellOfPurses();
        stakeOfPlans();
        stakeOfPurses();
        planOfNoSuchThing();
        planOfPurses();
        boldOfNoSuchThing();
        countOfWhat();
        traceIsLeftAlone();
        gamesOfADroppedNumber();
        lastPromisedCall();
        Check.end();
    }

    private static void due(String call, long got, long want) {
        Check.due(call, got, want);
    }

    private static int[] beside(int least, int most) {
        return new int[] {least - 1, most + 1, Integer.MIN_VALUE, Integer.MAX_VALUE};
    }

    private static StakeHouse withEvenGame() {
        StakeHouse x = new StakeHouse();
        x.game(0, 8, 0, 0, 32);
        return x;
    }

    /** Promise 1: "G 8, T 4, no GAMES." */
    private static void newObject() {
        StakeHouse x = new StakeHouse();
        due("new: count(0)", x.count(0), 8);
        due("new: count(1)", x.count(1), 4);
        due("new: count(2)", x.count(2), 0);
        due("new: trace()", x.trace(), 0);
        due("new: best", x.best(8, 4), STATE);
        due("new: win", x.win(0, 1), BAD);
        due("new: drop", x.drop(), STATE);
        due("new: set(0, 9) tells 8", x.set(0, 9), 8);
        due("new: set(1, 5) tells 4", x.set(1, 5), 4);
        due("new: the first game is 0", x.game(0, 8, 1, 0, 1), 0);
    }

    /** Promise 2: "G (what = 0), T (1)" */
    private static void setWhat() {
        StakeHouse x = new StakeHouse();
        due("set(0, 5)", x.set(0, 5), 8);
        due("set(1, 6)", x.set(1, 6), 4);
        due("goal", x.count(0), 5);
        due("horizon", x.count(1), 6);
        for (int what : beside(0, 1)) {
            Check.bad("set(" + what + ", 4)", y -> y.set(what, 4));
        }
        Check.bad("set(2, 8)", y -> y.set(2, 8));
        // What is right of the one is not right of the other.
        due("set(1, 12)", x.set(1, 12), 6);
        Check.bad("set(1, 32)", y -> y.set(1, 32));
        Check.bad("set(0, 0)", y -> y.set(0, 0));
        Check.bad("set(0, 1)", y -> y.set(0, 1));
        due("set(1, 1)", x.set(1, 1), 12);
        due("set(1, 0)", x.set(1, 0), 1);
    }

    /** Promise 2: "(Of G: TOLD numbers are 0 then.)" */
    private static void setGoalClearsTold() {
        for (int goal : new int[] {2, 31, 32}) {
            StakeHouse x = new StakeHouse();
            x.set(0, 32);
            x.game(0, 8, 0, 0, 32);
            tellAll(x, 32);
            due("set(0, " + goal + ")", x.set(0, goal), 32);
            for (int p = 1; p < goal; p++) {
                due("stake told at " + p + " behind goal " + goal, x.stake(2, 0, p), 0);
            }
            x.set(0, 32);
            for (int p = 1; p < 32; p++) {
                due("told at " + p + " behind goal " + goal + " and 32", x.tell(p, 0), 0);
            }
        }
        StakeHouse kept = new StakeHouse();
        tellAll(kept, 8);
        kept.set(1, 12);
        kept.set(1, 0);
        kept.game(0, 8, 0, 0, 1);
        kept.drop();
        for (int p = 1; p < 8; p++) {
            due("told at " + p + " behind a new horizon and games", kept.tell(p, 0), p);
        }
    }

    private static void tellAll(StakeHouse x, int goal) {
        for (int p = 1; p < goal; p++) {
            x.tell(p, p);
        }
    }

    private static void refusedSetKeepsTold() {
        for (int v : beside(2, 32)) {
            StakeHouse x = new StakeHouse();
            tellAll(x, 8);
            due("set(0, " + v + ")", x.set(0, v), BAD);
            for (int p = 1; p < 8; p++) {
                due("told at " + p + " behind the refused set(0, " + v + ")", x.tell(p, 0), p);
            }
        }
    }

    /** Promise 3: "(TIMES of EVEN, TAX but of TAXED are not looked at.)" */
    private static void gameNumbersNotLookedAt() {
        for (int any : new int[] {0, -1, 10, 11, Integer.MIN_VALUE, Integer.MAX_VALUE}) {
            StakeHouse x = new StakeHouse();
            due("EVEN, times " + any, x.game(0, 8, any, 0, 32), 0);
            due("EVEN, tax " + any, x.game(0, 8, 1, any, 32), 1);
            due("EVEN, both " + any, x.game(0, 8, any, any, 32), 2);
            due("LONG, tax " + any, x.game(1, 8, 2, any, 32), 3);
            for (int g = 0; g < 3; g++) {
                due("win of EVEN, " + any, x.win(g, 32), 32);
            }
            due("win of LONG, tax " + any, x.win(3, 32), 64);
            due("best(4, 1), " + any, x.best(4, 1), 8);
        }
        Check.bad("LONG, times 0, though its tax is not looked at", y -> y.game(1, 8, 0, 99, 1));
        Check.bad("TAXED, times 0", y -> y.game(2, 8, 0, 0, 1));
        Check.bad("TAXED, tax 11", y -> y.game(2, 8, 1, 11, 1));
        Check.bad("EVEN, chance 17, though its times are not looked at", y -> y.game(0, 17, 0, 0, 1));
        Check.bad("EVEN, limit 0, though its times are not looked at", y -> y.game(0, 8, 0, 0, 0));
    }

    /** Promise 3: "BAD; FULL." */
    private static void gameBadAheadOfFull() {
        int[][] bad = {{-1, 8, 1, 0, 1}, {3, 8, 1, 0, 1}, {0, -1, 1, 0, 1}, {0, 17, 1, 0, 1}, {1, 8, 0, 0, 1},
            {2, 8, 10, 0, 1}, {2, 8, 1, -1, 1}, {2, 8, 1, 11, 1}, {0, 8, 1, 0, 0}, {0, 8, 1, 0, 33}};
        for (int[] g : bad) {
            Check.refused("a bad fifth game of kind " + g[0], BAD, Check.MOST, y -> y.game(g[0], g[1], g[2], g[3], g[4]));
        }
        Check.refused("EVEN as a fifth, its times not looked at", FULL, Check.MOST, y -> y.game(0, 8, 0, -1, 1));
        Check.refused("LONG as a fifth, its tax not looked at", FULL, Check.MOST, y -> y.game(1, 8, 1, 11, 1));
    }

    private static void gameFullAgainAndAgain() {
        Check.refused("a fifth and a sixth game", FULL + FULL, Check.MOST,
            y -> y.game(0, 16, 0, 0, 32) + y.game(2, 16, 9, 0, 32));
        StakeHouse x = new StakeHouse();
        for (int i = 0; i < 4; i++) {
            x.game(0, 8, 0, 0, 32);
        }
        due("full", x.game(0, 8, 0, 0, 32), FULL);
        due("drop", x.drop(), 3);
        due("room for one", x.game(0, 8, 0, 0, 32), 3);
        due("full again", x.game(0, 8, 0, 0, 32), FULL);
        for (int left = 3; left >= 0; left--) {
            due("drop to " + left, x.drop(), left);
        }
        due("the first again", x.game(0, 8, 0, 0, 32), 0);
    }

    /** Promise 4: "STATE: there is none." */
    private static void dropOfNone() {
        Check.refused("drop()", STATE, Check.NEW, StakeHouse::drop);
        StakeHouse x = new StakeHouse();
        due("drop() of none", x.drop(), STATE);
        due("drop() of none again", x.drop(), STATE);
        due("games behind it", x.count(2), 0);
        due("the first game behind it", x.game(0, 8, 0, 0, 32), 0);
        due("drop() of one", x.drop(), 0);
        due("drop() of none left", x.drop(), STATE);
        due("the first game once more", x.game(1, 8, 3, 0, 32), 0);
        due("its win", x.win(0, 2), 6);
    }

    /** Promise 4: "The latest GAME is gone: how many are left." */
    private static void dropTakesTheLatest() {
        StakeHouse x = new StakeHouse();
        for (int m = 1; m <= 4; m++) {
            x.game(1, 4 * m, m, 0, 32);
        }
        for (int left = 3; left >= 1; left--) {
            due("drop()", x.drop(), left);
            due("win of the dropped", x.win(left, 1), BAD);
            due("win of the latest left", x.win(left - 1, 1), left);
            due("best of what is left", x.best(7, 1), 4 * left);
            due("mean of what is left", x.mean(0, 1), 0);
        }
    }

    /** Promise 5: "BAD": there is no such game. */
    private static void winOfNoSuchGame() {
        StakeHouse x = withEvenGame();
        due("win(0, 1)", x.win(0, 1), 1);
        due("win(1, 1)", x.win(1, 1), BAD);
        due("win(-1, 1)", x.win(-1, 1), BAD);
        noSuchGame("win", (y, g) -> y.win(g, 1));
    }

    private interface OfGame {
        long ask(StakeHouse x, int game);
    }

    /** The number behind the latest game is the first that is none, in each house. */
    private static void noSuchGame(String call, OfGame asked) {
        for (int g : new int[] {-1, 4, 5, Integer.MIN_VALUE, Integer.MAX_VALUE}) {
            Check.bad(call + " of game " + g, y -> asked.ask(y, g));
        }
        Check.bad(call + " of the next game", y -> asked.ask(y, y.count(2)));
    }

    /** Promise 6: "BEST of a PURSE": 0 .. G. */
    private static void bestOfPurses() {
        StakeHouse x = withEvenGame();
        due("best(0, 4)", x.best(0, 4), 0);
        due("best(8, 4)", x.best(8, 4), 1 << 16);
        Check.bad("best(-1, 0)", y -> y.best(-1, 0));
        Check.bad("best(G + 1, 0)", y -> y.best(y.count(0) + 1, 0));
        Check.bad("best(1, -1)", y -> y.best(1, -1));
        Check.bad("best(1, T + 1)", y -> y.best(1, y.count(1) + 1));
        for (int far : new int[] {Integer.MIN_VALUE, Integer.MAX_VALUE}) {
            Check.bad("best(" + far + ", 0)", y -> y.best(far, 0));
            Check.bad("best(1, " + far + ")", y -> y.best(1, far));
        }
    }

    /** Promise 8: "MEAN of a PURSE": 0 .. G. */
    private static void meanOfPurses() {
        StakeHouse x = withEvenGame();
        due("mean(0, 4)", x.mean(0, 4), 0);
        due("mean(8, 4)", x.mean(8, 4), 8 << 16);
        Check.bad("mean(-1, 0)", y -> y.mean(-1, 0));
        Check.bad("mean(G + 1, 0)", y -> y.mean(y.count(0) + 1, 0));
        Check.bad("mean(1, -1)", y -> y.mean(1, -1));
        Check.bad("mean(1, T + 1)", y -> y.mean(1, y.count(1) + 1));
        for (int far : new int[] {Integer.MIN_VALUE, Integer.MAX_VALUE}) {
            Check.bad("mean(" + far + ", 0)", y -> y.mean(far, 0));
            Check.bad("mean(1, " + far + ")", y -> y.mean(1, far));
        }
    }

    /** Promises 6 and 8: "-2: STATE: there are no GAMES", at each purse, by any turns. */
    private static void noGamesIsAState() {
        for (int p = 0; p <= 8; p += 4) {
            for (int turns = 0; turns <= 4; turns += 2) {
                int purse = p;
                int t = turns;
                String at = "(" + p + ", " + t + ") of no games";
                Check.refused("best" + at, -2, Check.NEW, y -> y.best(purse, t));
                Check.refused("mean" + at, -2, Check.NEW, y -> y.mean(purse, t));
            }
        }
        StakeHouse x = withEvenGame();
        due("best of one game", x.best(4, 1), 8);
        due("mean of one game", x.mean(4, 1), 64);
        x.drop();
        due("best of no games left", x.best(4, 1), -2);
        due("mean of no games left", x.mean(4, 1), -2);
        x.game(0, 3, 0, 0, 32);
        due("best of a game again", x.best(4, 1), 3);
    }

    /** "the first of these: BAD ..., STATE" */
    private static void badAheadOfState() {
        int[][] spots = {{-1, 0}, {9, 0}, {4, -1}, {4, 5}, {9, 5}};
        for (int[] s : spots) {
            Check.refused("best(" + s[0] + ", " + s[1] + ") of no games", BAD, Check.NEW, y -> y.best(s[0], s[1]));
            Check.refused("mean(" + s[0] + ", " + s[1] + ") of no games", BAD, Check.NEW, y -> y.mean(s[0], s[1]));
        }
    }

    /** Promise 7: "-1: BAD" */
    private static void stakesOfNoSuchThing() {
        noSuchGame("stakes", (y, g) -> y.stakes(g, 1, 1));
        noSuchGame("stakes at 0", (y, g) -> y.stakes(g, 0, 1));
        noSuchGame("stakes at the goal", (y, g) -> y.stakes(g, y.count(0), 1));
        Check.bad("stakes(0, -1, 1)", y -> y.stakes(0, -1, 1));
        Check.bad("stakes(0, G + 1, 1)", y -> y.stakes(0, y.count(0) + 1, 1));
        Check.bad("stakes(0, 1, 0)", y -> y.stakes(0, 1, 0));
        Check.bad("stakes(0, 0, 0)", y -> y.stakes(0, 0, 0));
        Check.bad("stakes(0, G, 0)", y -> y.stakes(0, y.count(0), 0));
        Check.bad("stakes(0, 1, -1)", y -> y.stakes(0, 1, -1));
        Check.bad("stakes(0, 1, T + 1)", y -> y.stakes(0, 1, y.count(1) + 1));
        Check.bad("stakes(0, G, T + 1)", y -> y.stakes(0, y.count(0), y.count(1) + 1));
        for (int far : new int[] {Integer.MIN_VALUE, Integer.MAX_VALUE}) {
            Check.bad("stakes(0, " + far + ", 1)", y -> y.stakes(0, far, 1));
            Check.bad("stakes(0, 1, " + far + ")", y -> y.stakes(0, 1, far));
        }
    }

    /** Promise 7: "0: none of it does (also at 0 and at G)." */
    private static void stakesThatNoneHas() {
        StakeHouse x = withEvenGame();
        x.game(0, 9, 0, 0, 32);
        due("stakes of the poorer game", x.stakes(0, 4, 1), 0);
        due("stakes of the better game", x.stakes(1, 4, 1), 1 << 4);
        for (int t = 1; t <= 4; t++) {
            due("stakes at 0 by " + t, x.stakes(1, 0, t), 0);
            due("stakes a step from 0 by " + t, x.stakes(1, 1, t) > 0 ? 1 : 0, 1);
            due("stakes a step from the goal by " + t, x.stakes(1, 7, t) > 0 ? 1 : 0, 1);
            due("stakes at the goal by " + t, x.stakes(1, 8, t), 0);
        }
    }

    /** Promise 9: "a PURSE 1 .. G - 1 becomes v: what it was. BAD." */
    private static void tellOfPurses() {
        for (int goal : new int[] {2, 8, 32}) {
            StakeHouse x = new StakeHouse();
            x.set(0, goal);
            due("tell(0, 1), goal " + goal, x.tell(0, 1), BAD);
            due("tell(1, 1), goal " + goal, x.tell(1, 1), 0);
            due("tell(G - 1, 2), goal " + goal, x.tell(goal - 1, 2), goal == 2 ? 1 : 0);
            due("tell(G, 1), goal " + goal, x.tell(goal, 1), BAD);
            due("tell(G - 1, 3), goal " + goal, x.tell(goal - 1, 3), 2);
        }
        for (int p : new int[] {0, -1, 32, 33, Integer.MIN_VALUE, Integer.MAX_VALUE}) {
            Check.bad("tell(" + p + ", 1)", y -> y.tell(p, 1));
        }
        Check.bad("tell(G, 1)", y -> y.tell(y.count(0), 1));
        Check.bad("tell(G + 1, 1)", y -> y.tell(y.count(0) + 1, 1));
        Check.bad("tell(G - 1, 33)", y -> y.tell(y.count(0) - 1, 33));
        Check.bad("tell(G - 1, -1)", y -> y.tell(y.count(0) - 1, -1));
        Check.bad("tell(0, 0)", y -> y.tell(0, 0));
    }

    /** Promise 10: "a PLAN (0 .. 2)": not the DOUBLING one. */
    private static void stakeOfPlans() {
        StakeHouse x = withEvenGame();
        x.tell(3, 2);
        due("stake(0, 0, 3)", x.stake(0, 0, 3), 3);
        due("stake(1, 0, 3)", x.stake(1, 0, 3), 1);
        due("stake(2, 0, 3)", x.stake(2, 0, 3), 2);
        for (int plan : new int[] {-1, 3, 4, Integer.MIN_VALUE, Integer.MAX_VALUE}) {
            Check.bad("stake(" + plan + ", 0, 1)", y -> y.stake(plan, 0, 1));
        }
        noSuchGame("stake", (y, g) -> y.stake(1, g, 1));
    }

    /** Promise 10: "at a PURSE 1 .. G - 1" */
    private static void stakeOfPurses() {
        for (int goal : new int[] {2, 8, 32}) {
            StakeHouse x = new StakeHouse();
            x.set(0, goal);
            x.game(0, 8, 0, 0, 32);
            for (int plan = 0; plan <= 2; plan++) {
                String of = " of plan " + plan + ", goal " + goal;
                due("stake at 0" + of, x.stake(plan, 0, 0), BAD);
                due("stake at 1" + of, x.stake(plan, 0, 1), plan == 2 ? 0 : 1);
                due("stake at G - 1" + of, x.stake(plan, 0, goal - 1), plan == 2 ? 0 : 1);
                due("stake at G" + of, x.stake(plan, 0, goal), BAD);
            }
        }
        for (int plan = 0; plan <= 2; plan++) {
            int n = plan;
            Check.bad("stake(" + n + ", 0, 0)", y -> y.stake(n, 0, 0));
            Check.bad("stake(" + n + ", 0, G)", y -> y.stake(n, 0, y.count(0)));
            for (int p : beside(0, 32)) {
                Check.bad("stake(" + n + ", 0, " + p + ")", y -> y.stake(n, 0, p));
            }
        }
    }

    /** Promise 11: "REACHES (what = 0), LOSES (1), BRINGS (2), PLAYS (3). -1: BAD." */
    private static void planOfNoSuchThing() {
        StakeHouse x = new StakeHouse();
        x.game(0, 5, 0, 0, 32);
        for (int plan = 0; plan <= 3; plan++) {
            due("reaches of plan " + plan, x.plan(plan, 0, 7, 1, 0), plan == 2 ? 0 : 5);
            due("loses of plan " + plan, x.plan(plan, 0, 1, 1, 1), plan == 2 ? 0 : 11);
            due("brings of plan " + plan, x.plan(plan, 0, 1, 1, 2), plan == 2 ? 16 : 10);
            due("plays of plan " + plan, x.plan(plan, 0, 1, 1, 3), plan == 2 ? 0 : 16);
        }
        for (int n : beside(0, 3)) {
            Check.bad("plan " + n, y -> y.plan(n, 0, 1, 0, 0));
            Check.bad("what " + n, y -> y.plan(0, 0, 1, 0, n));
        }
        noSuchGame("plan", (y, g) -> y.plan(0, g, 1, 0, 0));
        noSuchGame("doubling plan", (y, g) -> y.plan(3, g, 1, 0, 3));
    }

    /** Promise 11: a PURSE 0 .. G, t 0 .. T. */
    private static void planOfPurses() {
        StakeHouse x = withEvenGame();
        for (int plan = 0; plan <= 3; plan++) {
            int n = plan;
            due("plan " + n + " at 0", x.plan(n, 0, 0, 4, 1), 1 << 16);
            due("plan " + n + " at G", x.plan(n, 0, 8, 4, 0), 1 << 16);
            Check.bad("plan " + n + " at -1", y -> y.plan(n, 0, -1, 0, 0));
            Check.bad("plan " + n + " at G + 1", y -> y.plan(n, 0, y.count(0) + 1, 0, 0));
            Check.bad("plan " + n + " by -1", y -> y.plan(n, 0, 1, -1, 0));
            Check.bad("plan " + n + " by T + 1", y -> y.plan(n, 0, 1, y.count(1) + 1, 0));
            for (int far : new int[] {Integer.MIN_VALUE, Integer.MAX_VALUE}) {
                Check.bad("plan " + n + " at " + far, y -> y.plan(n, 0, far, 0, 0));
                Check.bad("plan " + n + " by " + far, y -> y.plan(n, 0, 1, far, 0));
            }
        }
    }

    /** Promise 12: "BAD." */
    private static void boldOfNoSuchThing() {
        StakeHouse x = withEvenGame();
        due("bold(0, 0, 0)", x.bold(0, 0, 0), 1);
        due("bold(0, 8, 4)", x.bold(0, 8, 4), 1);
        noSuchGame("bold", (y, g) -> y.bold(g, 1, 0));
        Check.bad("bold at -1", y -> y.bold(0, -1, 0));
        Check.bad("bold at G + 1", y -> y.bold(0, y.count(0) + 1, 0));
        Check.bad("bold by -1", y -> y.bold(0, 1, -1));
        Check.bad("bold by T + 1", y -> y.bold(0, 1, y.count(1) + 1));
        for (int far : new int[] {Integer.MIN_VALUE, Integer.MAX_VALUE}) {
            Check.bad("bold at " + far, y -> y.bold(0, far, 0));
            Check.bad("bold by " + far, y -> y.bold(0, 1, far));
        }
    }

    /** Promise 13: "0 G, 1 T, 2 GAMES. BAD." */
    private static void countOfWhat() {
        StakeHouse x = new StakeHouse();
        x.set(0, 32);
        x.set(1, 0);
        for (int games = 0; games <= 4; games++) {
            due("count(0)", x.count(0), 32);
            due("count(1)", x.count(1), 0);
            due("count(2)", x.count(2), games);
            x.game(0, 8, 0, 0, 32);
        }
        due("count(2) behind the fifth", x.count(2), 4);
        for (int what : beside(0, 2)) {
            Check.bad("count(" + what + ")", y -> y.count(what));
        }
    }

    /** Promise 14: it is asked for, and stays. */
    private static void traceIsLeftAlone() {
        StakeHouse x = new StakeHouse();
        x.game(2, 8, 1, 0, 1);
        x.win(0, 1);
        due("trace()", x.trace(), 111);
        due("trace() again", x.trace(), 111);
        due("trace() of another object", new StakeHouse().trace(), 0);
        x.set(0, 2);
        x.set(1, 0);
        x.drop();
        x.drop();
        due("trace() behind changes and a refused drop", x.trace(), 111);
    }

    /** A number that was a game's is none behind drop, and the next game's then. */
    private static void gamesOfADroppedNumber() {
        StakeHouse x = new StakeHouse();
        x.game(0, 8, 0, 0, 32);
        x.game(1, 16, 7, 0, 32);
        due("best(1, 1) of both", x.best(1, 1), 16);
        x.drop();
        due("win of the dropped", x.win(1, 1), BAD);
        due("stakes of the dropped", x.stakes(1, 1, 1), BAD);
        due("stake of the dropped", x.stake(0, 1, 1), BAD);
        due("plan of the dropped", x.plan(0, 1, 1, 1, 0), BAD);
        due("bold of the dropped", x.bold(1, 1, 1), BAD);
        due("best(1, 1) of the first", x.best(1, 1), 0);
        due("the next game", x.game(0, 4, 0, 0, 32), 1);
        due("win of the next", x.win(1, 1), 1);
        due("plan of the next", x.plan(0, 1, 7, 1, 0), 4);
    }

    /** "An object is used for at most 512 calls": the 512th is answered as the first. */
    private static void lastPromisedCall() {
        StakeHouse wins = new StakeHouse();
        wins.game(2, 8, 9, 0, 32);
        for (int call = 2; call < 512; call++) {
            due("win, call " + call, wins.win(0, 32), 288);
        }
        due("trace(), call 512", wins.trace(), 510 * 111);
        StakeHouse games = new StakeHouse();
        for (int pair = 0; pair < 255; pair++) {
            due("game, pair " + pair, games.game(0, 8, 0, 0, 32), 0);
            due("drop, pair " + pair, games.drop(), 0);
        }
        due("game, call 511", games.game(0, 7, 0, 0, 32), 0);
        due("best, call 512", games.best(4, 1), 7);
    }
}
