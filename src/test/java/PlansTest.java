/** Promises 9 to 14: tell, stake, plan, bold, count, trace. */
public final class PlansTest {
    private static void due(String call, long got, long want) {
        Check.due(call, got, want);
    }

    public static void main(String[] args) {
        tellNumbers();
        stakeOfPlans();
        boldStakes();
        planRefusals();
        planByNoTurns();
        planAtTheEnds();
        planByOneTurn();
        toldPlanStandsStill();
        doublingPlan();
        doublingBehindAWinOfNothing();
        doublingUnderALimit();
        boldIsBest();
        boldLooksAtOneGameAlone();
        countOfThings();
        traceOfWins();
        Check.end();
    }

    private static void tellNumbers() {
        StakeHouse x = new StakeHouse();
        due("tell(1, 32)", x.tell(1, 32), 0);
        due("tell(1, 0): it was told above the purse", x.tell(1, 0), 32);
        due("tell(1, 5)", x.tell(1, 5), 0);
        due("tell(7, 7)", x.tell(7, 7), 0);
        int[][] bad = {{0, 1}, {8, 1}, {-1, 1}, {1, -1}, {1, 33},
            {Integer.MIN_VALUE, 1}, {Integer.MAX_VALUE, 1}, {1, Integer.MIN_VALUE}, {1, Integer.MAX_VALUE}};
        for (int[] b : bad) {
            due("tell(" + b[0] + ", " + b[1] + ")", x.tell(b[0], b[1]), StakeHouse.BAD);
        }
        due("told after refusals", x.tell(1, 5), 5);
        due("told of the other purse", x.tell(7, 7), 7);
        x.set(0, 32);
        due("tell(31, 32)", x.tell(31, 32), 0);
        due("tell(32, 1)", x.tell(32, 1), StakeHouse.BAD);
    }

    private static void stakeOfPlans() {
        StakeHouse x = new StakeHouse();
        due("stake of no game", x.stake(0, 0, 3), StakeHouse.BAD);
        x.game(0, 8, 0, 0, 3);
        due("timid", x.stake(1, 0, 7), 1);
        due("told nothing", x.stake(2, 0, 5), 0);
        x.tell(5, 9);
        x.tell(2, 3);
        x.tell(4, 2);
        due("told, limit at most", x.stake(2, 0, 5), 3);
        due("told, purse at most", x.stake(2, 0, 2), 2);
        due("told", x.stake(2, 0, 4), 2);
        int[][] bad = {{-1, 0, 3}, {3, 0, 3}, {4, 0, 3}, {0, -1, 3}, {0, 1, 3}, {0, 0, 0}, {0, 0, 8}, {1, 0, -1},
            {Integer.MIN_VALUE, 0, 3}, {0, Integer.MAX_VALUE, 3}, {2, 0, Integer.MAX_VALUE}, {2, 0, Integer.MIN_VALUE}};
        for (int[] b : bad) {
            due("stake(" + b[0] + ", " + b[1] + ", " + b[2] + ")", x.stake(b[0], b[1], b[2]), StakeHouse.BAD);
        }
    }

    private static void boldStakes() {
        StakeHouse x = new StakeHouse();
        x.game(0, 8, 0, 0, 2);
        x.game(1, 8, 3, 0, 32);
        x.game(2, 8, 3, 5, 32);
        x.game(2, 8, 9, 10, 4);
        int[] even = {1, 2, 2, 2, 2, 2, 1};
        int[] longs = {1, 2, 2, 2, 1, 1, 1};
        // The wins of the third are 2, 3, 5, 6, 8, 9, 11.
        int[] taxed = {1, 2, 3, 3, 2, 1, 1};
        int[] nothing = {1, 2, 3, 4, 4, 4, 4};
        for (int p = 1; p < 8; p++) {
            due("bold of EVEN at " + p, x.stake(0, 0, p), even[p - 1]);
            due("bold of LONG at " + p, x.stake(0, 1, p), longs[p - 1]);
            due("bold of TAXED at " + p, x.stake(0, 2, p), taxed[p - 1]);
            due("bold where no win reaches at " + p, x.stake(0, 3, p), nothing[p - 1]);
        }
    }

    private static void planRefusals() {
        StakeHouse x = new StakeHouse();
        due("plan of no game", x.plan(0, 0, 3, 4, 0), StakeHouse.BAD);
        x.game(0, 8, 0, 0, 32);
        int[][] bad = {{-1, 0, 3, 4, 0}, {4, 0, 3, 4, 0}, {0, -1, 3, 4, 0}, {0, 1, 3, 4, 0}, {0, 0, -1, 4, 0},
            {0, 0, 9, 4, 0}, {0, 0, 3, -1, 0}, {0, 0, 3, 5, 0}, {0, 0, 3, 4, -1}, {0, 0, 3, 4, 4},
            {Integer.MAX_VALUE, 0, 3, 4, 0}, {3, Integer.MIN_VALUE, 3, 4, 0}, {3, 0, Integer.MAX_VALUE, 4, 0},
            {3, 0, 3, Integer.MAX_VALUE, 0}, {3, 0, 3, 4, Integer.MIN_VALUE}};
        for (int[] b : bad) {
            due("plan(" + b[0] + ", " + b[1] + ", " + b[2] + ", " + b[3] + ", " + b[4] + ")",
                x.plan(b[0], b[1], b[2], b[3], b[4]), StakeHouse.BAD);
        }
    }

    private static void planByNoTurns() {
        StakeHouse x = new StakeHouse();
        x.game(0, 8, 0, 0, 32);
        for (int plan = 0; plan < 4; plan++) {
            for (int p = 0; p <= 8; p++) {
                due("reaches by no turns", x.plan(plan, 0, p, 0, 0), p == 8 ? 1 : 0);
                due("loses by no turns", x.plan(plan, 0, p, 0, 1), p == 0 ? 1 : 0);
                due("brings by no turns", x.plan(plan, 0, p, 0, 2), p);
                due("plays by no turns", x.plan(plan, 0, p, 0, 3), 0);
            }
        }
    }

    private static void planAtTheEnds() {
        StakeHouse x = new StakeHouse();
        x.set(0, 32);
        x.set(1, 12);
        x.game(0, 8, 0, 0, 32);
        for (int plan = 0; plan < 4; plan++) {
            due("reaches at 0", x.plan(plan, 0, 0, 12, 0), 0);
            due("loses at 0", x.plan(plan, 0, 0, 12, 1), 1L << 48);
            due("brings at 0", x.plan(plan, 0, 0, 12, 2), 0);
            due("plays at 0", x.plan(plan, 0, 0, 12, 3), 0);
            due("reaches at the goal", x.plan(plan, 0, 32, 12, 0), 1L << 48);
            due("loses at the goal", x.plan(plan, 0, 32, 12, 1), 0);
            due("brings at the goal", x.plan(plan, 0, 32, 12, 2), 1L << 53);
            due("plays at the goal", x.plan(plan, 0, 32, 12, 3), 0);
        }
    }

    private static void planByOneTurn() {
        StakeHouse x = new StakeHouse();
        x.game(1, 5, 3, 0, 32);
        due("bold reaches from 2", x.plan(0, 0, 2, 1, 0), 5);
        due("bold loses from 2", x.plan(0, 0, 2, 1, 1), 11);
        due("bold brings from 2: the goal cuts nothing", x.plan(0, 0, 2, 1, 2), 40);
        due("bold brings from 3: stake 2, the goal cuts 1", x.plan(0, 0, 3, 1, 2), 5 * 8 + 11);
        due("bold plays from 3", x.plan(0, 0, 3, 1, 3), 16);
        due("timid brings from 3", x.plan(1, 0, 3, 1, 2), 5 * 6 + 11 * 2);
        due("timid brings from 7", x.plan(1, 0, 7, 1, 2), 5 * 8 + 11 * 6);
        x.tell(3, 3);
        due("told brings from 3", x.plan(2, 0, 3, 1, 2), 5 * 8);
        due("doubling brings from 3", x.plan(3, 0, 3, 1, 2), 5 * 6 + 11 * 2);
    }

    private static void toldPlanStandsStill() {
        StakeHouse x = new StakeHouse();
        x.game(0, 8, 0, 0, 32);
        x.tell(3, 1);
        // One turn is played, then 4 or 2 are let go by.
        due("told plays", x.plan(2, 0, 3, 4, 3), 1L << 16);
        due("told brings", x.plan(2, 0, 3, 4, 2), 3L << 16);
        due("told plays where 0 is told", x.plan(2, 0, 5, 4, 3), 0);
        due("told brings where 0 is told", x.plan(2, 0, 5, 4, 2), 5L << 16);
        x.set(0, 8);
        due("told plays when told numbers are 0", x.plan(2, 0, 3, 4, 3), 0);
    }

    private static void doublingPlan() {
        StakeHouse x = new StakeHouse();
        x.set(0, 32);
        x.game(0, 0, 0, 0, 32);
        due("doubling a lost game: 20 - 1", x.plan(3, 0, 20, 1, 2), 19L << 4);
        due("doubling a lost game: 20 - 1 - 2", x.plan(3, 0, 20, 2, 2), 17L << 8);
        due("doubling a lost game: 20 - 1 - 2 - 4", x.plan(3, 0, 20, 3, 2), 13L << 12);
        due("doubling a lost game: 20 - 1 - 2 - 4 - 8", x.plan(3, 0, 20, 4, 2), 5L << 16);
        x.set(1, 6);
        due("doubling a lost game: purse at most", x.plan(3, 0, 20, 5, 2), 0);
        due("doubling a lost game: it ends", x.plan(3, 0, 20, 6, 3), 5L << 24);
        due("doubling a lost game: 31 is lost by five", x.plan(3, 0, 31, 5, 1), 1L << 20);
        due("doubling a lost game: but not by four", x.plan(3, 0, 31, 4, 1), 0);
        x.drop();
        x.game(0, 16, 0, 0, 32);
        due("doubling a sure game: 1 each turn", x.plan(3, 0, 20, 4, 2), 24L << 16);
    }

    private static void doublingBehindAWinOfNothing() {
        StakeHouse x = new StakeHouse();
        x.game(2, 16, 1, 10, 32);
        due("a won turn that brought 0 is won", x.plan(3, 0, 5, 4, 2), 5L << 16);
        x.drop();
        x.game(2, 8, 1, 10, 32);
        // From 2: lost, then 1 of 1; won, then 1 of 2.
        due("loses by two turns from 2", x.plan(3, 0, 2, 2, 1), 64);
        // From 3: lost and lost (1, 2); every other way leaves something.
        due("loses by two turns from 3", x.plan(3, 0, 3, 2, 1), 64);
        // By three: lost, lost; lost (2 left), won, lost 1: 1 is left.
        due("loses by three turns from 3: also behind a won one", x.plan(3, 0, 3, 3, 1), 64 * 16 + 512);
    }

    private static void doublingUnderALimit() {
        StakeHouse x = new StakeHouse();
        x.set(0, 32);
        x.set(1, 12);
        x.game(0, 0, 0, 0, 3);
        due("1, 2, then the limit", x.plan(3, 0, 31, 3, 2), 25L << 12);
        due("1, 2, then the limit again", x.plan(3, 0, 31, 4, 2), 22L << 16);
        due("1, 2 and seven limits", x.plan(3, 0, 31, 9, 2), 7L << 36);
        due("1, 2 and nine limits, then the purse", x.plan(3, 0, 31, 12, 3), 12L << 48);
        due("nothing is left then", x.plan(3, 0, 31, 12, 1), 1L << 48);
    }

    private static void boldIsBest() {
        StakeHouse x = new StakeHouse();
        due("bold of no game", x.bold(0, 3, 1), StakeHouse.BAD);
        x.game(0, 12, 0, 0, 32);
        // By two turns from 4: all of it, 12 of 16. From 7 a won 1 or, if lost,
        // 2 of 6: the same as bold. From 3: 3 to 6, then 2.
        due("bold(0, 4, 1)", x.bold(0, 4, 1), 1);
        due("bold(0, 7, 2)", x.bold(0, 7, 2), 1);
        // By four turns from 4 timid wins 12^4 / 16^4 alone, with more beside it.
        due("bold(0, 4, 4): a good game is better played small", x.bold(0, 4, 4), 0);
        due("bold at 0", x.bold(0, 0, 4), 1);
        due("bold at the goal", x.bold(0, 8, 4), 1);
        due("bold by no turns", x.bold(0, 5, 0), 1);
        int[][] bad = {{-1, 3, 1}, {1, 3, 1}, {0, -1, 1}, {0, 9, 1}, {0, 3, -1}, {0, 3, 5},
            {Integer.MAX_VALUE, 3, 1}, {Integer.MIN_VALUE, 3, 1}, {0, Integer.MAX_VALUE, 1}, {0, 3, Integer.MIN_VALUE}};
        for (int[] b : bad) {
            due("bold(" + b[0] + ", " + b[1] + ", " + b[2] + ")", x.bold(b[0], b[1], b[2]), StakeHouse.BAD);
        }
    }

    private static void boldLooksAtOneGameAlone() {
        StakeHouse x = new StakeHouse();
        x.game(0, 7, 0, 0, 32);
        x.game(0, 12, 0, 0, 32);
        x.game(0, 16, 0, 0, 32);
        due("best with the sure game", x.best(4, 4), 1L << 16);
        due("bold of the bad game", x.bold(0, 4, 4), 1);
        due("bold of the good game", x.bold(1, 4, 4), 0);
        due("bold of the bad game again", x.bold(0, 4, 4), 1);
        due("bold of the sure game", x.bold(2, 4, 4), 1);
        x.drop();
        x.drop();
        x.drop();
        x.game(0, 12, 0, 0, 32);
        due("bold of a good game in the bad one's place", x.bold(0, 4, 4), 0);
        x.set(0, 4);
        due("bold with a goal that one turn reaches", x.bold(0, 3, 1), 1);
    }

    private static void countOfThings() {
        StakeHouse x = new StakeHouse();
        x.set(0, 17);
        x.set(1, 11);
        x.game(0, 8, 0, 0, 32);
        x.game(0, 8, 0, 0, 32);
        due("count(0)", x.count(0), 17);
        due("count(1)", x.count(1), 11);
        due("count(2)", x.count(2), 2);
        int[] bad = {-1, 3, Integer.MIN_VALUE, Integer.MAX_VALUE};
        for (int what : bad) {
            due("count(" + what + ")", x.count(what), StakeHouse.BAD);
        }
    }

    private static void traceOfWins() {
        StakeHouse x = new StakeHouse();
        x.game(0, 8, 0, 0, 32);
        x.game(1, 8, 2, 0, 32);
        x.game(2, 8, 2, 3, 32);
        due("trace of games alone", x.trace(), 0);
        x.win(2, 5);
        due("TAXED asks all three", x.trace(), 111);
        x.win(1, 5);
        due("LONG asks two", x.trace(), 122);
        x.win(0, 5);
        due("EVEN asks one", x.trace(), 123);
        x.win(0, 0);
        x.win(3, 1);
        due("refused wins ask none", x.trace(), 123);
        x.best(3, 4);
        x.mean(3, 4);
        x.stakes(2, 3, 4);
        x.stake(0, 2, 3);
        x.plan(0, 2, 3, 4, 0);
        x.plan(3, 2, 3, 4, 3);
        x.bold(2, 3, 4);
        due("only win() comes to the trace", x.trace(), 123);
        x.drop();
        x.set(0, 9);
        x.set(1, 9);
        due("the trace is kept", x.trace(), 123);
    }
}
