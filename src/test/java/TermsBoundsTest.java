/** The Terms, a test for each sentence that names a bound: the goal, games, turns, the best. */
public final class TermsBoundsTest {
    private static final int BAD = StakeHouse.BAD;
    private static final int EVEN = 0;
    private static final int LONG = 1;
    private static final int TAXED = 2;

    public static void main(String[] args) {
        goal();
        games();
        kinds();
        chance();
        times();
        tax();
        limit();
        stakeOfWin();
        winsOfEvenAndLong();
        taxedIsRoundedDown();
        numbersInBrackets();
        stakesUpToLimitAndPurse();
        playedStakesUpToLimitAndPurse();
        goalCutsTheWin();
        nothingIsPlayedAtTheEnds();
        horizon();
        turnsUpToTheHorizon();
        stakesNeedATurn();
        oneMayLetItGoBy();
        sixteenths();
        bitsOfStakes();
        Check.end();
    }

    private static void due(String call, long got, long want) {
        Check.due(call, got, want);
    }

    /** An object with one game and the goal and horizon told. */
    private static StakeHouse house(int goal, int turns, int kind, int chance, int times, int limit) {
        StakeHouse x = new StakeHouse();
        x.set(0, goal);
        x.set(1, turns);
        x.game(kind, chance, times, 0, limit);
        return x;
    }

    /** "THE GOAL G is 2 .. 32 (8 at first)." */
    private static void goal() {
        StakeHouse x = new StakeHouse();
        x.game(EVEN, 16, 0, 0, 32);
        due("the goal at first", x.count(0), 8);
        due("best at the first goal", x.best(8, 0), 1);
        due("best above the first goal", x.best(9, 0), BAD);
        int was = 8;
        for (int v = 2; v <= 32; v++) {
            due("set(0, " + v + ")", x.set(0, v), was);
            due("count(0) behind set(0, " + v + ")", x.count(0), v);
            due("best just below goal " + v, x.best(v - 1, 0), 0);
            due("best at goal " + v, x.best(v, 0), 1);
            due("best just above goal " + v, x.best(v + 1, 0), BAD);
            was = v;
        }
        due("set(0, 2)", x.set(0, 2), 32);
        for (int v : new int[] {1, 0, -1, 33, 34, 64, Integer.MIN_VALUE, Integer.MAX_VALUE}) {
            Check.bad("set(0, " + v + ")", y -> y.set(0, v));
        }
    }

    /** "GAMES (4 at most)": each further one is better, so that BEST shows that it is played. */
    private static void games() {
        StakeHouse x = new StakeHouse();
        for (int i = 0; i < 4; i++) {
            due("game " + i, x.game(EVEN, 3 + 4 * i, 0, 0, 32), i);
            due("games behind game " + i, x.count(2), i + 1);
            due("best with game " + i, x.best(7, 1), 3 + 4 * i);
        }
        due("a fifth game", x.game(EVEN, 16, 0, 0, 32), StakeHouse.FULL);
        due("best without the fifth game", x.best(7, 1), 15);
        due("games behind the fifth", x.count(2), 4);
        due("drop()", x.drop(), 3);
        due("a fourth game again", x.game(EVEN, 14, 0, 0, 32), 3);
        due("best with the new fourth game", x.best(7, 1), 14);
        due("a fifth game again", x.game(EVEN, 16, 0, 0, 32), StakeHouse.FULL);
        for (int kind = 0; kind <= 2; kind++) {
            int k = kind;
            Check.refused("a fifth game of kind " + k, StakeHouse.FULL, Check.MOST, y -> y.game(k, 8, 1, 0, 1));
        }
    }

    /** "KINDS over one another: 0 EVEN, 1 LONG, 2 TAXED" */
    private static void kinds() {
        StakeHouse x = new StakeHouse();
        due("game of kind 0", x.game(0, 8, 4, 5, 32), 0);
        due("game of kind 1", x.game(1, 8, 4, 5, 32), 1);
        due("game of kind 2", x.game(2, 8, 4, 5, 32), 2);
        due("kind 0 is EVEN", x.win(0, 3), 3);
        due("kind 1 is LONG", x.win(1, 3), 12);
        due("kind 2 is TAXED", x.win(2, 3), 6);
        for (int kind : new int[] {-1, 3, 4, Integer.MIN_VALUE, Integer.MAX_VALUE}) {
            Check.bad("game of kind " + kind, y -> y.game(kind, 8, 1, 0, 1));
        }
    }

    /** "a CHANCE c (0 .. 16 of 16)" */
    private static void chance() {
        for (int kind = 0; kind <= 2; kind++) {
            StakeHouse x = new StakeHouse();
            for (int c = 0; c <= 16; c++) {
                String of = " of kind " + kind + ", chance " + c;
                due("game" + of, x.game(kind, c, 1, 0, 32), 0);
                due("best a step from the goal" + of, x.best(7, 1), c);
                due("timid loses a step from 0" + of, x.plan(1, 0, 1, 1, 1), 16 - c);
                x.drop();
            }
            int k = kind;
            for (int c : new int[] {-1, 17, Integer.MIN_VALUE, Integer.MAX_VALUE}) {
                Check.bad("game of kind " + k + ", chance " + c, y -> y.game(k, c, 1, 0, 1));
            }
        }
    }

    /** "TIMES m (1 .. 9)" */
    private static void times() {
        for (int kind = LONG; kind <= TAXED; kind++) {
            StakeHouse x = new StakeHouse();
            for (int m = 1; m <= 9; m++) {
                due("game of kind " + kind + ", times " + m, x.game(kind, 8, m, 0, 32), 0);
                due("win of 1 by kind " + kind + ", times " + m, x.win(0, 1), m);
                x.drop();
            }
            int k = kind;
            for (int m : new int[] {0, -1, 10, Integer.MIN_VALUE, Integer.MAX_VALUE}) {
                Check.bad("game of kind " + k + ", times " + m, y -> y.game(k, 8, m, 0, 1));
            }
        }
    }

    /** "TAX x (0 .. 10 tenths)" */
    private static void tax() {
        StakeHouse x = new StakeHouse();
        for (int tenths = 0; tenths <= 10; tenths++) {
            due("TAXED, tax " + tenths, x.game(TAXED, 8, 1, tenths, 32), 0);
            due("win of 10 by tax " + tenths, x.win(0, 10), 10 - tenths);
            x.drop();
        }
        for (int tenths : new int[] {-1, 11, Integer.MIN_VALUE, Integer.MAX_VALUE}) {
            Check.bad("TAXED, tax " + tenths, y -> y.game(TAXED, 8, 1, tenths, 1));
        }
    }

    /** "a LIMIT (1 .. 32)" */
    private static void limit() {
        for (int kind = 0; kind <= 2; kind++) {
            StakeHouse x = new StakeHouse();
            x.set(0, 32);
            for (int most = 1; most <= 32; most++) {
                due("game of kind " + kind + ", limit " + most, x.game(kind, 0, 1, 0, most), 0);
                due("told 32 at 31, limit " + most, x.tell(31, 32), most == 1 ? 0 : 32);
                due("stake of 32 at 31, limit " + most, x.stake(2, 0, 31), Math.min(most, 31));
                x.drop();
            }
            int k = kind;
            for (int most : new int[] {0, -1, 33, Integer.MIN_VALUE, Integer.MAX_VALUE}) {
                Check.bad("game of kind " + k + ", limit " + most, y -> y.game(k, 8, 1, 0, most));
            }
        }
    }

    /** "WIN of a STAKE s (1 .. 32)": neither LIMIT nor goal nor purse is in its way. */
    private static void stakeOfWin() {
        StakeHouse x = new StakeHouse();
        x.set(0, 2);
        x.game(EVEN, 8, 0, 0, 1);
        x.game(LONG, 8, 9, 0, 1);
        x.game(TAXED, 8, 9, 3, 1);
        due("EVEN win of 1", x.win(0, 1), 1);
        due("EVEN win of 2, above the limit", x.win(0, 2), 2);
        due("EVEN win of 32", x.win(0, 32), 32);
        due("LONG win of 1", x.win(1, 1), 9);
        due("LONG win of 32", x.win(1, 32), 288);
        due("TAXED win of 1: 9 less 2", x.win(2, 1), 7);
        due("TAXED win of 32: 288 less 86", x.win(2, 32), 202);
        for (int s : new int[] {0, -1, 33, Integer.MIN_VALUE, Integer.MAX_VALUE}) {
            for (int game = 0; game < 4; game++) {
                int g = game;
                Check.bad("win(" + g + ", " + s + ")", y -> y.win(g, s));
            }
        }
    }

    /** "EVEN s", "LONG up times m" */
    private static void winsOfEvenAndLong() {
        for (int m = 1; m <= 9; m++) {
            StakeHouse x = new StakeHouse();
            x.game(EVEN, 8, m, 10, 32);
            x.game(LONG, 8, m, 10, 32);
            int longWin = 0;
            for (int s = 1; s <= 32; s++) {
                longWin += m;
                due("EVEN win of " + s, x.win(0, s), s);
                due("LONG win of " + s + ", times " + m, x.win(1, s), longWin);
            }
        }
    }

    /** "TAXED up, less x tenths of it, rounded down": the tenths are, as 1 less half of it shows. */
    private static void taxedIsRoundedDown() {
        StakeHouse x = new StakeHouse();
        x.game(TAXED, 8, 1, 1, 32);
        x.game(TAXED, 8, 1, 9, 32);
        x.game(TAXED, 8, 1, 10, 32);
        x.game(TAXED, 8, 1, 5, 32);
        due("9 less 0.9", x.win(0, 9), 9);
        due("10 less 1", x.win(0, 10), 9);
        due("11 less 1.1", x.win(0, 11), 10);
        due("1 less 0.9", x.win(1, 1), 1);
        due("2 less 1.8", x.win(1, 2), 1);
        due("1 less 1", x.win(2, 1), 0);
        due("32 less 32", x.win(2, 32), 0);
        due("1 less 0.5", x.win(3, 1), 1);
        due("2 less 1", x.win(3, 2), 1);
        for (int m = 1; m <= 9; m++) {
            everyTax(m);
        }
    }

    private static void everyTax(int m) {
        StakeHouse x = new StakeHouse();
        for (int tenths = 0; tenths <= 10; tenths++) {
            x.game(TAXED, 8, m, tenths, 32);
            for (int s = 1; s <= 32; s++) {
                int taken = 0;
                while (10 * (taken + 1) <= tenths * s * m) {
                    taken++;
                }
                due("TAXED win of " + s + ", times " + m + ", tax " + tenths, x.win(0, s), s * m - taken);
            }
            x.drop();
        }
    }

    /** "numbers in brackets come to THE TRACE as often as win() asks that body" */
    private static void numbersInBrackets() {
        int[] mark = {1, 11, 111};
        for (int kind = 0; kind <= 2; kind++) {
            StakeHouse x = new StakeHouse();
            due("the trace at first", x.trace(), 0);
            x.game(kind, 8, 1, 10, 1);
            due("the trace of a game of kind " + kind, x.trace(), 0);
            for (int n = 1; n <= 32; n++) {
                x.win(0, n);
                due("the trace of " + n + " wins of kind " + kind, x.trace(), (long) n * mark[kind]);
            }
            x.win(0, 33);
            x.win(0, 0);
            x.win(1, 1);
            due("the trace behind refused wins of kind " + kind, x.trace(), 32L * mark[kind]);
            x.best(3, 4);
            x.mean(3, 4);
            x.stakes(0, 3, 4);
            x.stake(0, 0, 3);
            x.plan(0, 0, 3, 4, 0);
            x.plan(3, 0, 3, 4, 3);
            x.bold(0, 3, 4);
            due("the trace behind all but win()", x.trace(), 32L * mark[kind]);
            x.drop();
            due("the trace behind drop()", x.trace(), 32L * mark[kind]);
        }
    }

    /** "1 up to its LIMIT and the PURSE at most": where nothing can be won, each stake is as good. */
    private static void stakesUpToLimitAndPurse() {
        for (int goal : new int[] {2, 3, 8, 31, 32}) {
            for (int most = 1; most <= 32; most++) {
                StakeHouse x = house(goal, 1, EVEN, 0, 1, most);
                for (int p = 1; p < goal; p++) {
                    due("stakes at " + p + ", goal " + goal + ", limit " + most,
                        x.stakes(0, p, 1), (2L << Math.min(p, most)) - 1);
                }
            }
        }
    }

    /** The same of BEST and MEAN: a sure game reaches by its greatest stake, or not at all. */
    private static void playedStakesUpToLimitAndPurse() {
        for (int goal : new int[] {2, 3, 8, 31, 32}) {
            for (int most = 1; most <= 32; most++) {
                StakeHouse x = house(goal, 1, EVEN, 16, 1, most);
                for (int p = 1; p < goal; p++) {
                    int up = Math.min(goal, p + Math.min(p, most));
                    String at = " at " + p + ", goal " + goal + ", limit " + most;
                    due("best" + at, x.best(p, 1), up == goal ? 16 : 0);
                    due("mean" + at, x.mean(p, 1), 16 * up);
                }
            }
        }
    }

    /** "with CHANCE c the PURSE becomes WIN more (G, where that would be above it), else STAKE less" */
    private static void goalCutsTheWin() {
        int[][] wins = {{1, 6, 7}, {1, 7, 8}, {2, 7, 8}, {9, 7, 8}, {6, 1, 7}, {7, 1, 8}, {8, 1, 8}, {9, 1, 8}};
        for (int[] w : wins) {
            StakeHouse x = house(8, 4, LONG, 16, w[0], 1);
            String of = " of 1 times " + w[0] + " at " + w[1];
            due("timid brings by a win" + of, x.plan(1, 0, w[1], 1, 2), 16 * w[2]);
            due("mean by a win" + of, x.mean(w[1], 1), 16 * w[2]);
            due("timid reaches by a win" + of, x.plan(1, 0, w[1], 1, 0), w[2] == 8 ? 16 : 0);
            due("best by a win" + of, x.best(w[1], 1), w[2] == 8 ? 16 : 0);
        }
        StakeHouse far = house(32, 12, LONG, 16, 9, 32);
        far.tell(31, 31);
        due("told brings 31 and 279", far.plan(2, 0, 31, 1, 2), 16 * 32);
        due("the cut purse plays no more", far.plan(2, 0, 31, 12, 3), 1L << 48);
        StakeHouse mixed = house(8, 4, LONG, 5, 9, 32);
        due("bold from 7 brings 5 * 8 + 11 * 6", mixed.plan(0, 0, 7, 1, 2), 106);
        mixed.tell(7, 7);
        due("told 7 of 7 brings 5 * 8 + 11 * 0", mixed.plan(2, 0, 7, 1, 2), 40);
        due("told 7 of 7 loses", mixed.plan(2, 0, 7, 1, 1), 11);
    }

    /** "At 0 and at G nothing is played any more." */
    private static void nothingIsPlayedAtTheEnds() {
        for (int goal : new int[] {2, 8, 32}) {
            for (int c : new int[] {0, 7, 16}) {
                StakeHouse x = house(goal, 12, LONG, c, 9, 32);
                for (int t = 0; t <= 12; t += 4) {
                    long all = 1L << 4 * t;
                    String at = ", goal " + goal + ", chance " + c + ", by " + t;
                    due("best at 0" + at, x.best(0, t), 0);
                    due("best at the goal" + at, x.best(goal, t), all);
                    due("mean at 0" + at, x.mean(0, t), 0);
                    due("mean at the goal" + at, x.mean(goal, t), goal * all);
                    due("stakes at 0" + at, x.stakes(0, 0, t), t == 0 ? BAD : 0);
                    due("stakes at the goal" + at, x.stakes(0, goal, t), t == 0 ? BAD : 0);
                    for (int plan = 0; plan < 4; plan++) {
                        plansAtTheEnds(x, goal, plan, t, all);
                    }
                }
            }
        }
    }

    private static void plansAtTheEnds(StakeHouse x, int goal, int plan, int t, long all) {
        long[] atZero = {0, all, 0, 0};
        long[] atGoal = {all, 0, goal * all, 0};
        for (int what = 0; what < 4; what++) {
            String of = "plan " + plan + " by " + t + ", what " + what;
            due(of + " at 0", x.plan(plan, 0, 0, t, what), atZero[what]);
            due(of + " at the goal", x.plan(plan, 0, goal, t, what), atGoal[what]);
        }
    }

    /** "HORIZON: T TURNS (0 .. 12; 4 at first)." */
    private static void horizon() {
        StakeHouse x = new StakeHouse();
        due("the horizon at first", x.count(1), 4);
        int was = 4;
        for (int v = 0; v <= 12; v++) {
            due("set(1, " + v + ")", x.set(1, v), was);
            due("count(1) behind set(1, " + v + ")", x.count(1), v);
            was = v;
        }
        due("set(1, 0)", x.set(1, 0), 12);
        for (int v : new int[] {-1, 13, 14, Integer.MIN_VALUE, Integer.MAX_VALUE}) {
            Check.bad("set(1, " + v + ")", y -> y.set(1, v));
        }
    }

    /** "by t TURNS (0 .. T)", of all calls that take t. */
    private static void turnsUpToTheHorizon() {
        StakeHouse first = new StakeHouse();
        first.game(EVEN, 8, 0, 0, 32);
        due("best by 4, the first horizon", first.best(8, 4), 1L << 16);
        due("best by 5, above the first horizon", first.best(8, 5), BAD);
        StakeHouse x = new StakeHouse();
        x.game(EVEN, 8, 0, 0, 32);
        // Up and down again: what was reckoned for a long horizon is no answer behind a short one.
        for (int v : new int[] {0, 1, 5, 12, 11, 4, 0, 12}) {
            x.set(1, v);
            due("best by " + v + " of " + v, x.best(8, v), 1L << 4 * v);
            due("mean by " + v + " of " + v, x.mean(8, v), 8L << 4 * v);
            due("plan by " + v + " of " + v, x.plan(0, 0, 8, v, 0), 1L << 4 * v);
            due("bold by " + v + " of " + v, x.bold(0, 8, v), 1);
            for (int t : new int[] {-1, v + 1, 13, Integer.MIN_VALUE, Integer.MAX_VALUE}) {
                String by = " by " + t + " of " + v;
                due("best" + by, x.best(8, t), BAD);
                due("mean" + by, x.mean(8, t), BAD);
                due("stakes" + by, x.stakes(0, 3, t), BAD);
                due("plan" + by, x.plan(0, 0, 8, t, 0), BAD);
                due("bold" + by, x.bold(0, 8, t), BAD);
            }
        }
    }

    /** "with t TURNS (1 .. T) left, BEST of t is reached" */
    private static void stakesNeedATurn() {
        StakeHouse x = house(8, 0, EVEN, 8, 1, 32);
        due("stakes by 0 of 0", x.stakes(0, 7, 0), BAD);
        due("stakes by 1 of 0", x.stakes(0, 7, 1), BAD);
        x.set(1, 1);
        due("stakes by 0 of 1", x.stakes(0, 7, 0), BAD);
        due("stakes by 1 of 1", x.stakes(0, 7, 1), 0xFE);
        due("stakes by 2 of 1", x.stakes(0, 7, 2), BAD);
        x.set(1, 12);
        due("stakes by 0 of 12", x.stakes(0, 7, 0), BAD);
        due("stakes by 12 of 12: 7 in 8 by 1 alone, now or later", x.stakes(0, 7, 12), 3);
        due("stakes by 13 of 12", x.stakes(0, 7, 13), BAD);
    }

    /** "(Where a TURN may be played, one may also let it go by.)" */
    private static void oneMayLetItGoBy() {
        StakeHouse never = house(8, 4, EVEN, 0, 1, 32);
        for (int p = 1; p < 8; p++) {
            for (int t = 1; t <= 4; t++) {
                due("mean of a game that never wins at " + p + " by " + t, never.mean(p, t), (long) p << 4 * t);
            }
        }
        StakeHouse sure = house(8, 4, EVEN, 16, 1, 1);
        due("three steps by three turns: none goes by", sure.stakes(0, 5, 3), 2);
        due("three steps by four turns: one may go by", sure.stakes(0, 5, 4), 3);
        due("best of three steps by three", sure.best(5, 3), 1 << 12);
        due("best of three steps by four", sure.best(5, 4), 1 << 16);
        due("best of three steps by two", sure.best(5, 2), 0);
        // From 4 there is one try of 5 in 16, and no second one: it may come late.
        StakeHouse oneTry = house(8, 4, EVEN, 5, 1, 32);
        due("one try by one turn", oneTry.best(4, 1), 5);
        due("one try by two turns", oneTry.best(4, 2), 5 << 4);
        due("stakes of one try by one turn", oneTry.stakes(0, 4, 1), 1 << 4);
        due("stakes of one try by two turns", oneTry.stakes(0, 4, 2), 1 << 4 | 1);
        due("no bit 0 at 0", oneTry.stakes(0, 0, 2), 0);
        due("no bit 0 at the goal", oneTry.stakes(0, 8, 2), 0);
    }

    /** "it is a whole number of 16^t-ths: that number", up to the longest horizon and the highest goal. */
    private static void sixteenths() {
        StakeHouse x = house(32, 12, EVEN, 16, 1, 1);
        due("the greatest best", x.best(20, 12), 281474976710656L);
        due("the greatest mean", x.mean(20, 12), 9007199254740992L);
        due("the greatest reaches", x.plan(1, 0, 20, 12, 0), 281474976710656L);
        due("the greatest brings", x.plan(1, 0, 20, 12, 2), 9007199254740992L);
        due("the greatest plays", x.plan(1, 0, 20, 12, 3), 3377699720527872L);
        due("best by no turns at the goal", x.best(32, 0), 1);
        due("mean by no turns", x.mean(31, 0), 31);
        StakeHouse nearly = house(32, 12, EVEN, 15, 1, 1);
        due("twelve of fifteen in sixteen", nearly.best(20, 12), 129746337890625L);
        due("timid likewise", nearly.plan(1, 0, 20, 12, 0), 129746337890625L);
        StakeHouse hardly = house(32, 12, EVEN, 1, 1, 1);
        due("the least best that is not 0", hardly.best(20, 12), 1);
        due("a step short of it", hardly.best(19, 12), 0);
        due("timid loses all twelve", hardly.plan(1, 0, 12, 12, 1), 129746337890625L);
    }

    /** "bit s for STAKE s; bit 0: letting it go by" */
    private static void bitsOfStakes() {
        StakeHouse x = house(32, 2, EVEN, 3, 1, 32);
        due("stakes at 31: bits 1 .. 31", x.stakes(0, 31, 1), 4294967294L);
        due("stakes at 15: bits 0 .. 15", x.stakes(0, 15, 1), 65535);
        due("stakes at 16: bit 16", x.stakes(0, 16, 1), 65536);
        due("stakes at 17: bits 15 .. 17", x.stakes(0, 17, 1), 7 << 15);
        StakeHouse all = house(32, 1, EVEN, 0, 1, 32);
        due("stakes at 31 where nothing wins: bits 0 .. 31", all.stakes(0, 31, 1), 4294967295L);
        StakeHouse two = house(8, 2, EVEN, 16, 1, 1);
        two.game(EVEN, 0, 0, 0, 32);
        due("a sure game, a turn to spare", two.stakes(0, 7, 2), 3);
        due("a lost game, a turn to spare: bit 0 alone", two.stakes(1, 7, 2), 1);
        due("a sure game, no turn to spare", two.stakes(0, 7, 1), 2);
        due("a lost game, no turn to spare: none of it does", two.stakes(1, 7, 1), 0);
    }
}
