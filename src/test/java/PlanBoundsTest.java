/** The Terms, a test for each sentence that names a bound: the plans and what they bring. */
public final class PlanBoundsTest {
    private static final int BAD = StakeHouse.BAD;
    private static final int BOLD = 0;
    private static final int TIMID = 1;
    private static final int TOLD = 2;
    private static final int DOUBLING = 3;
    private static final int REACHES = 0;
    private static final int LOSES = 1;
    private static final int BRINGS = 2;
    private static final int PLAYS = 3;

    public static void main(String[] args) {
        boldLeastThatReaches();
        boldMostThatPurseAndLimitLet();
        boldAtTheBoundsOfTheGoal();
        timidStakesOne();
        toldAtFirst();
        toldNumbers();
        toldForEachPurse();
        toldUpToPurseAndLimit();
        toldNothingIsLetGoBy();
        doublingUpToThePurse();
        doublingUpToTheLimit();
        doublingBehindAWonTurn();
        worthByNoTurns();
        reachesAndLosesAtTheEndsAlone();
        playsWhatIsPlayed();
        boldIsBestAtTheBounds();
        boldIsBestWithThatGameAlone();
        Check.end();
    }

    private static void due(String call, long got, long want) {
        Check.due(call, got, want);
    }

    private static StakeHouse house(int goal, int turns, int chance, int times, int limit) {
        StakeHouse x = new StakeHouse();
        x.set(0, goal);
        x.set(1, turns);
        x.game(1, chance, times, 0, limit);
        return x;
    }

    private static void stakesDue(String of, StakeHouse x, int plan, int... want) {
        for (int p = 1; p <= want.length; p++) {
            due(of + " at " + p, x.stake(plan, 0, p), want[p - 1]);
        }
    }

    /** "BOLD: the least STAKE whose WIN reaches G": just reaches it, or goes above. */
    private static void boldLeastThatReaches() {
        stakesDue("bold, times 1", house(8, 4, 8, 1, 32), BOLD, 1, 2, 3, 4, 3, 2, 1);
        // At 2 a win of 6 just reaches, at 4 one of 3 is one short, at 5 it just reaches.
        stakesDue("bold, times 3", house(8, 4, 8, 3, 32), BOLD, 1, 2, 2, 2, 1, 1, 1);
        stakesDue("bold, times 7", house(8, 4, 8, 7, 32), BOLD, 1, 1, 1, 1, 1, 1, 1);
        stakesDue("bold, times 6", house(8, 4, 8, 6, 32), BOLD, 1, 1, 1, 1, 1, 1, 1);
    }

    /** "if PURSE and LIMIT let it, else the most that they let" */
    private static void boldMostThatPurseAndLimitLet() {
        // At 5 the limit just lets the 3, at 4 it is one short of the 4.
        stakesDue("bold, limit 3", house(8, 4, 8, 1, 3), BOLD, 1, 2, 3, 3, 3, 2, 1);
        stakesDue("bold, limit 4", house(8, 4, 8, 1, 4), BOLD, 1, 2, 3, 4, 3, 2, 1);
        stakesDue("bold, limit 2", house(8, 4, 8, 1, 2), BOLD, 1, 2, 2, 2, 2, 2, 1);
        stakesDue("bold, limit 1", house(8, 4, 8, 1, 1), BOLD, 1, 1, 1, 1, 1, 1, 1);
        StakeHouse nothing = new StakeHouse();
        nothing.game(2, 8, 9, 10, 5);
        stakesDue("bold, wins of 0", nothing, BOLD, 1, 2, 3, 4, 5, 5, 5);
    }

    private static void boldAtTheBoundsOfTheGoal() {
        stakesDue("bold, goal 2", house(2, 4, 8, 1, 32), BOLD, 1);
        StakeHouse x = house(32, 4, 8, 1, 32);
        due("bold of 32 at 15: the purse is in the way", x.stake(BOLD, 0, 15), 15);
        due("bold of 32 at 16: the purse just lets it", x.stake(BOLD, 0, 16), 16);
        due("bold of 32 at 17", x.stake(BOLD, 0, 17), 15);
        due("bold of 32 at 31", x.stake(BOLD, 0, 31), 1);
        StakeHouse nothing = new StakeHouse();
        nothing.set(0, 32);
        nothing.game(2, 8, 9, 10, 32);
        due("bold of 32 at 31, wins of 0", nothing.stake(BOLD, 0, 31), 31);
    }

    /** "TIMID: 1." */
    private static void timidStakesOne() {
        for (int goal : new int[] {2, 8, 32}) {
            for (int limit : new int[] {1, 2, 32}) {
                StakeHouse x = house(goal, 4, 8, 9, limit);
                for (int p = 1; p < goal; p++) {
                    due("timid at " + p + ", goal " + goal + ", limit " + limit, x.stake(TIMID, 0, p), 1);
                }
            }
        }
    }

    /** "a number for each PURSE (0 .. 32; 0 at first)": 0 at first, of a new object and of a new goal. */
    private static void toldAtFirst() {
        for (int goal : new int[] {2, 8, 32}) {
            StakeHouse x = house(goal, 4, 8, 1, 32);
            for (int p = 1; p < goal; p++) {
                due("told stake at first at " + p, x.stake(TOLD, 0, p), 0);
                due("told at first at " + p, x.tell(p, 1), 0);
            }
        }
        StakeHouse x = new StakeHouse();
        for (int p = 1; p < 8; p++) {
            due("told in a new object at " + p, x.tell(p, 1), 0);
        }
    }

    /** "a number for each PURSE (0 .. 32": each of them is taken and kept as told. */
    private static void toldNumbers() {
        StakeHouse x = new StakeHouse();
        int was = 0;
        for (int v = 0; v <= 32; v++) {
            due("tell(1, " + v + ")", x.tell(1, v), was);
            was = v;
        }
        due("tell(1, 0)", x.tell(1, 0), 32);
        due("tell(1, 0) again", x.tell(1, 0), 0);
        for (int v : new int[] {-1, 33, Integer.MIN_VALUE, Integer.MAX_VALUE}) {
            Check.bad("tell(1, " + v + ")", y -> y.tell(1, v));
        }
    }

    private static void toldForEachPurse() {
        StakeHouse x = house(32, 4, 8, 1, 32);
        for (int p = 1; p < 32; p++) {
            due("tell(" + p + ", " + (32 - p) + ")", x.tell(p, 32 - p), 0);
        }
        for (int p = 1; p < 32; p++) {
            due("told at " + p, x.tell(p, 0), 32 - p);
        }
    }

    /** "PURSE and LIMIT at most" */
    private static void toldUpToPurseAndLimit() {
        for (int limit : new int[] {1, 4, 5, 6, 32}) {
            StakeHouse x = house(8, 4, 8, 1, limit);
            for (int p = 1; p < 8; p++) {
                for (int v : new int[] {0, 1, 3, 4, 5, 6, 7, 8, 32}) {
                    x.tell(p, v);
                    due("told " + v + " at " + p + ", limit " + limit,
                        x.stake(TOLD, 0, p), Math.min(v, Math.min(p, limit)));
                }
            }
        }
        StakeHouse two = house(8, 1, 0, 1, 2);
        two.game(0, 0, 0, 0, 32);
        two.tell(6, 5);
        due("told 5 at 6 in the game of limit 2", two.stake(TOLD, 0, 6), 2);
        due("told 5 at 6 in the game of limit 32", two.stake(TOLD, 1, 6), 5);
        due("what is left by the first", two.plan(TOLD, 0, 6, 1, BRINGS), 4 * 16);
        due("what is left by the second", two.plan(TOLD, 1, 6, 1, BRINGS), 16);
        due("told number as it was told", two.tell(6, 5), 5);
    }

    /** "0: it is let go by" */
    private static void toldNothingIsLetGoBy() {
        for (int chance : new int[] {0, 7, 16}) {
            StakeHouse x = house(8, 4, chance, 9, 32);
            for (int t = 0; t <= 4; t++) {
                String by = " where 0 is told, by " + t + ", chance " + chance;
                due("reaches" + by, x.plan(TOLD, 0, 5, t, REACHES), 0);
                due("loses" + by, x.plan(TOLD, 0, 5, t, LOSES), 0);
                due("brings" + by, x.plan(TOLD, 0, 5, t, BRINGS), 5L << 4 * t);
                due("plays" + by, x.plan(TOLD, 0, 5, t, PLAYS), 0);
            }
            x.tell(5, 1);
            due("plays when 1 is told", x.plan(TOLD, 0, 5, 1, PLAYS), 16);
            x.tell(5, 0);
            due("plays when 0 is told again", x.plan(TOLD, 0, 5, 1, PLAYS), 0);
        }
    }

    private static void leftDue(String of, StakeHouse x, int purse, int... left) {
        for (int t = 1; t <= left.length; t++) {
            due(of + " from " + purse + " by " + t, x.plan(DOUBLING, 0, purse, t, BRINGS), (long) left[t - 1] << 4 * t);
        }
    }

    /** "1 at first ..., else twice the STAKE of the TURN ahead; PURSE ... at most", of a game that never wins. */
    private static void doublingUpToThePurse() {
        StakeHouse x = house(32, 12, 0, 1, 32);
        leftDue("doubling", x, 31, 30, 28, 24, 16, 0, 0);
        leftDue("doubling, 15 of 16", x, 30, 29, 27, 23, 15, 0, 0);
        leftDue("doubling, 1 of 16", x, 16, 15, 13, 9, 1, 0, 0);
        leftDue("doubling, 8 of 8", x, 15, 14, 12, 8, 0, 0);
        leftDue("doubling", x, 1, 0, 0);
        leftDue("doubling, 1 of 2", x, 2, 1, 0, 0);
        leftDue("doubling, 2 of 2", x, 3, 2, 0, 0);
        due("doubling plays from 31", x.plan(DOUBLING, 0, 31, 12, PLAYS), 5L << 48);
        due("doubling plays from 15", x.plan(DOUBLING, 0, 15, 12, PLAYS), 4L << 48);
    }

    /** "... and LIMIT at most": behind a stake that the LIMIT held down, twice that stake. */
    private static void doublingUpToTheLimit() {
        leftDue("doubling, limit 1", house(32, 12, 0, 1, 1), 31, 30, 29, 28, 27, 26, 25, 24, 23, 22, 21, 20, 19);
        leftDue("doubling, limit 2", house(32, 12, 0, 1, 2), 31, 30, 28, 26, 24, 22);
        leftDue("doubling, limit 3", house(32, 12, 0, 1, 3), 31, 30, 28, 25, 22, 19);
        leftDue("doubling, limit 4", house(32, 12, 0, 1, 4), 31, 30, 28, 24, 20, 16);
        leftDue("doubling, limit 5", house(32, 12, 0, 1, 5), 31, 30, 28, 24, 19, 14, 9, 4, 0, 0);
        leftDue("doubling, limit 15", house(32, 12, 0, 1, 15), 31, 30, 28, 24, 16, 1, 0);
        leftDue("doubling, limit 16", house(32, 12, 0, 1, 16), 31, 30, 28, 24, 16, 0);
    }

    /** "1 at first and behind a TURN that was won" */
    private static void doublingBehindAWonTurn() {
        StakeHouse sure = house(32, 12, 16, 1, 32);
        leftDue("doubling a sure game", sure, 20, 21, 22, 23, 24, 25, 26, 27, 28, 29, 30, 31, 32);
        StakeHouse x = house(8, 4, 4, 1, 32);
        // From 4, W won, L lost: LLL 0, LLW 2, LWL 4, LWW 6, WLL 2, WLW 6, WWL 5, WWW 7.
        due("doubling from 4 by three brings", x.plan(DOUBLING, 0, 4, 3, BRINGS),
            576 * 2 + 576 * 4 + 192 * 6 + 576 * 2 + 192 * 6 + 192 * 5 + 64 * 7);
        due("doubling from 4 by three loses", x.plan(DOUBLING, 0, 4, 3, LOSES), 1728);
        // From 6 the goal is reached by WW, by WLW (1, 1, 2) and by LWW (1, 2, 1).
        due("doubling from 6 by three reaches", x.plan(DOUBLING, 0, 6, 3, REACHES), 256 + 192 + 192);
        due("doubling from 6 by three plays", x.plan(DOUBLING, 0, 6, 3, PLAYS), 3 * 4096 - 256);
        StakeHouse nothing = new StakeHouse();
        nothing.game(2, 16, 1, 10, 32);
        due("a turn won by 0 is won", nothing.plan(DOUBLING, 0, 5, 4, BRINGS), 5 << 16);
    }

    /** REACHES .. PLAYS "by t TURNS", of no turns. */
    private static void worthByNoTurns() {
        StakeHouse x = house(8, 0, 16, 9, 32);
        for (int plan = 0; plan < 4; plan++) {
            for (int p = 0; p <= 8; p++) {
                String of = " of plan " + plan + " at " + p + " by no turns";
                due("reaches" + of, x.plan(plan, 0, p, 0, REACHES), p == 8 ? 1 : 0);
                due("loses" + of, x.plan(plan, 0, p, 0, LOSES), p == 0 ? 1 : 0);
                due("brings" + of, x.plan(plan, 0, p, 0, BRINGS), p);
                due("plays" + of, x.plan(plan, 0, p, 0, PLAYS), 0);
            }
        }
    }

    /** "REACHES ...: the chance to be at G then", "LOSES: to be at 0": a step off is neither. */
    private static void reachesAndLosesAtTheEndsAlone() {
        StakeHouse sure = house(8, 4, 16, 1, 1);
        due("timid reaches from 4 by four", sure.plan(TIMID, 0, 4, 4, REACHES), 1 << 16);
        due("timid reaches from 3 by four", sure.plan(TIMID, 0, 3, 4, REACHES), 0);
        due("timid loses from 3 by four", sure.plan(TIMID, 0, 3, 4, LOSES), 0);
        StakeHouse never = house(8, 4, 0, 1, 1);
        due("timid loses from 4 by four", never.plan(TIMID, 0, 4, 4, LOSES), 1 << 16);
        due("timid loses from 5 by four", never.plan(TIMID, 0, 5, 4, LOSES), 0);
        due("timid reaches from 5 by four", never.plan(TIMID, 0, 5, 4, REACHES), 0);
        due("timid brings from 5 by four", never.plan(TIMID, 0, 5, 4, BRINGS), 1 << 16);
    }

    /** "PLAYS: how many TURNS are played": none at 0 and at G, none that is let go by. */
    private static void playsWhatIsPlayed() {
        StakeHouse sure = house(8, 4, 16, 1, 1);
        due("timid plays from 7", sure.plan(TIMID, 0, 7, 4, PLAYS), 1 << 16);
        due("timid plays from 4", sure.plan(TIMID, 0, 4, 4, PLAYS), 4 << 16);
        StakeHouse never = house(8, 4, 0, 1, 1);
        due("timid plays from 1", never.plan(TIMID, 0, 1, 4, PLAYS), 1 << 16);
        due("timid plays from 5", never.plan(TIMID, 0, 5, 4, PLAYS), 4 << 16);
        never.tell(5, 1);
        never.tell(3, 1);
        due("told plays from 5, where 0 is told at 4", never.plan(TOLD, 0, 5, 4, PLAYS), 1 << 16);
        StakeHouse half = house(2, 4, 8, 1, 1);
        due("timid plays from 1 to 2 or to 0", half.plan(TIMID, 0, 1, 4, PLAYS), 1 << 16);
        // From 1 to 3: won, a second turn; lost, none.
        StakeHouse third = house(3, 2, 4, 1, 1);
        due("timid plays from 1 to 3 by two", third.plan(TIMID, 0, 1, 2, PLAYS), 256 + 4 * 16);
    }

    /** "BOLD IS BEST from a PURSE by t": at 0, at G and by no turns both are the same. */
    private static void boldIsBestAtTheBounds() {
        StakeHouse x = house(8, 4, 12, 1, 32);
        due("bold at 0", x.bold(0, 0, 4), 1);
        due("bold at the goal", x.bold(0, 8, 4), 1);
        for (int p = 0; p <= 8; p++) {
            due("bold at " + p + " by no turns", x.bold(0, p, 0), 1);
            due("bold at " + p + " by one turn", x.bold(0, p, 1), 1);
        }
        due("bold of a good game at 4 by four", x.bold(0, 4, 4), 0);
        StakeHouse poor = house(8, 4, 7, 1, 32);
        for (int p = 0; p <= 8; p++) {
            due("bold of a poor game at " + p, poor.bold(0, p, 4), 1);
        }
    }

    /** "with that GAME alone" */
    private static void boldIsBestWithThatGameAlone() {
        StakeHouse x = house(8, 4, 7, 1, 32);
        due("bold of the one game", x.bold(0, 4, 1), 1);
        x.game(0, 16, 0, 0, 32);
        due("bold beside a sure game", x.bold(0, 4, 1), 1);
        due("best beside a sure game", x.best(4, 1), 16);
        due("bold of the sure game", x.bold(1, 4, 1), 1);
        x.drop();
        due("bold of the dropped game", x.bold(1, 4, 1), BAD);
        x.game(0, 12, 0, 0, 32);
        due("bold of a good game in its place", x.bold(1, 4, 4), 0);
        due("bold of the first game still", x.bold(0, 4, 4), 1);
        StakeHouse behind = house(8, 4, 16, 1, 32);
        behind.game(0, 7, 0, 0, 32);
        behind.game(0, 9, 0, 0, 32);
        due("bold of a poor game between better ones", behind.bold(1, 4, 1), 1);
        due("bold of a good game behind a sure one", behind.bold(2, 4, 1), 1);
        due("bold of the sure game, told again", behind.bold(0, 4, 1), 1);
    }
}
