/**
 * Stakes to a goal: games of told odds, played turn by turn from a purse up to
 * a goal. All chances are whole numbers of 16^t-ths, so that they are exact.
 */
public final class StakeHouse {
    public static final int BAD = -1, STATE = -2, FULL = -3, NONE = -9;

    private static final int LEAST_GOAL = 2, MOST_GOAL = 32, FIRST_GOAL = 8;
    private static final int MOST_TURNS = 12, FIRST_TURNS = 4;
    private static final int MOST_GAMES = 4, MOST_STAKE = 32;
    private static final int PARTS = 16, PART_BITS = 4, TENTHS = 10;
    private static final int EVEN = 0, LONG = 1, TAXED = 2;
    private static final int BOLD = 0, TIMID = 1, TOLD = 2, DOUBLING = 3;
    private static final int REACHES = 0, LOSES = 1, BRINGS = 2, PLAYS = 3;
    private static final int WIDTH = MOST_GOAL + 1;
    // Doubled stakes are 1, 2, 4 .. 32: 32 is above every purse that plays.
    private static final int RUNGS = 6;

    private final EvenGame[] games = new EvenGame[MOST_GAMES];
    private final int[] told = new int[WIDTH];
    private final Chart bestChart = new Chart(REACHES);
    private final Chart meanChart = new Chart(BRINGS);
    private final Chart aloneChart = new Chart(REACHES);
    // Rows for plans are made once, since no call may need fresh room.
    private final int[] staked = new int[RUNGS * WIDTH];
    private final long[][] worth = new long[2][RUNGS * WIDTH];
    private int goal = FIRST_GOAL;
    private int horizon = FIRST_TURNS;
    private int held = 0;
    private long marks = 0;

    public StakeHouse() {
    }

    // ---- the goal, games

    public int set(int what, int v) {
        if (what == 0 && within(v, LEAST_GOAL, MOST_GOAL)) {
            return changeGoal(v);
        }
        if (what == 1 && within(v, 0, MOST_TURNS)) {
            int old = horizon;
            horizon = v;
            return old;
        }
        return BAD;
    }

    public int game(int kind, int chance, int times, int tax, int limit) {
        if (!within(kind, EVEN, TAXED) || !within(chance, 0, PARTS) || !within(limit, 1, MOST_STAKE)) {
            return BAD;
        }
        if (kind != EVEN && !within(times, 1, 9)) {
            return BAD;
        }
        if (kind == TAXED && !within(tax, 0, TENTHS)) {
            return BAD;
        }
        if (held >= MOST_GAMES) {
            return FULL;
        }
        EvenGame g = newGame(kind, chance, times, tax, limit);
        g.keepGains();
        games[held] = g;
        held++;
        forgetCharts();
        return held - 1;
    }

    public int drop() {
        if (held < 1) {
            return STATE;
        }
        held--;
        games[held] = null;
        forgetCharts();
        return held;
    }

    public int win(int game, int stake) {
        EvenGame g = gameAt(game);
        if (g == null || !within(stake, 1, MOST_STAKE)) {
            return BAD;
        }
        marks += g.mark();
        return g.gain(stake);
    }

    // ---- the best

    public long best(int purse, int t) {
        return greatestFrom(bestChart, purse, t);
    }

    public long stakes(int game, int purse, int t) {
        EvenGame g = gameAt(game);
        if (g == null || !isSpot(purse, t) || t < 1) {
            return BAD;
        }
        if (!isPlayed(purse)) {
            return 0;
        }
        bestChart.cover(0, held);
        return bestStakes(g, purse, chartRow(bestChart, t)[purse], chartRow(bestChart, t - 1));
    }

    public long mean(int purse, int t) {
        return greatestFrom(meanChart, purse, t);
    }

    // ---- plans

    public int tell(int purse, int v) {
        if (!isPlayed(purse) || !within(v, 0, MOST_STAKE)) {
            return BAD;
        }
        int old = told[purse];
        told[purse] = v;
        return old;
    }

    public int stake(int plan, int game, int purse) {
        EvenGame g = gameAt(game);
        if (g == null || !within(plan, BOLD, TOLD) || !isPlayed(purse)) {
            return BAD;
        }
        return planned(plan, g, purse, 0);
    }

    public long plan(int plan, int game, int purse, int t, int what) {
        EvenGame g = gameAt(game);
        if (g == null || !within(plan, BOLD, DOUBLING) || !within(what, REACHES, PLAYS)) {
            return BAD;
        }
        if (!isSpot(purse, t)) {
            return BAD;
        }
        return planWorth(plan, g, purse, t, what);
    }

    public int bold(int game, int purse, int t) {
        EvenGame g = gameAt(game);
        if (g == null || !isSpot(purse, t)) {
            return BAD;
        }
        aloneChart.cover(game, game + 1);
        long greatest = chartRow(aloneChart, t)[purse];
        return planWorth(BOLD, g, purse, t, REACHES) == greatest ? 1 : 0;
    }

    public int count(int what) {
        switch (what) {
            case 0:
                return goal;
            case 1:
                return horizon;
            case 2:
                return held;
            default:
                return BAD;
        }
    }

    public long trace() {
        return marks;
    }

    // ---- what may be asked

    private static boolean within(int v, int least, int most) {
        return v >= least && v <= most;
    }

    private boolean isSpot(int purse, int t) {
        return within(purse, 0, goal) && within(t, 0, horizon);
    }

    private boolean isPlayed(int purse) {
        return within(purse, 1, goal - 1);
    }

    private EvenGame gameAt(int game) {
        return within(game, 0, held - 1) ? games[game] : null;
    }

    // ---- changes

    private int changeGoal(int v) {
        int old = goal;
        goal = v;
        for (int p = 0; p < WIDTH; p++) {
            told[p] = 0;
        }
        forgetCharts();
        return old;
    }

    private void forgetCharts() {
        bestChart.forget();
        meanChart.forget();
        aloneChart.forget();
    }

    private static EvenGame newGame(int kind, int chance, int times, int tax, int limit) {
        if (kind == TAXED) {
            return new TaxedGame(chance, limit, times, tax);
        }
        if (kind == LONG) {
            return new LongGame(chance, limit, times);
        }
        return new EvenGame(chance, limit);
    }

    // ---- one turn

    private static int mostStake(EvenGame g, int purse) {
        return Math.min(purse, g.limit);
    }

    private int raised(EvenGame g, int purse, int stake) {
        return Math.min(goal, purse + g.gains[stake]);
    }

    private static long mixed(EvenGame g, long won, long lost) {
        return g.chance * won + (PARTS - g.chance) * lost;
    }

    private long endWorth(int what, int purse) {
        switch (what) {
            case REACHES:
                return purse == goal ? 1 : 0;
            case LOSES:
                return purse == 0 ? 1 : 0;
            case BRINGS:
                return purse;
            default:
                return 0;
        }
    }

    // ---- the greatest over all stakes

    private long greatestFrom(Chart chart, int purse, int t) {
        if (!isSpot(purse, t)) {
            return BAD;
        }
        if (held < 1) {
            return STATE;
        }
        chart.cover(0, held);
        return chartRow(chart, t)[purse];
    }

    private long[] chartRow(Chart chart, int t) {
        for (int left = chart.known; left <= t; left++) {
            for (int p = 0; p <= goal; p++) {
                chart.rows[left][p] = left < 1
                    ? endWorth(chart.what, p)
                    : greatestTurn(chart, chart.rows[left - 1], p);
            }
            chart.known = left + 1;
        }
        return chart.rows[t];
    }

    private long greatestTurn(Chart chart, long[] before, int purse) {
        long greatest = PARTS * before[purse];
        if (!isPlayed(purse)) {
            return greatest;
        }
        for (int i = chart.first; i < chart.end; i++) {
            EvenGame g = gameAt(i);
            if (g != null) {
                greatest = Math.max(greatest, greatestStake(g, before, purse));
            }
        }
        return greatest;
    }

    private long greatestStake(EvenGame g, long[] before, int purse) {
        int most = mostStake(g, purse);
        long greatest = 0;
        for (int s = 1; s <= most; s++) {
            greatest = Math.max(greatest, mixed(g, before[raised(g, purse, s)], before[purse - s]));
        }
        return greatest;
    }

    private long bestStakes(EvenGame g, int purse, long greatest, long[] before) {
        long bits = PARTS * before[purse] == greatest ? 1 : 0;
        int most = mostStake(g, purse);
        for (int s = 1; s <= most; s++) {
            if (mixed(g, before[raised(g, purse, s)], before[purse - s]) == greatest) {
                // Bit 31 would be an int's sign.
                bits |= 1L << s;
            }
        }
        return bits;
    }

    // ---- plans, by rungs: only DOUBLING has more than one

    private int planned(int plan, EvenGame g, int purse, int rung) {
        switch (plan) {
            case BOLD:
                return boldStake(g, purse);
            case TIMID:
                return 1;
            case TOLD:
                return Math.min(told[purse], mostStake(g, purse));
            default:
                return Math.min(1 << rung, mostStake(g, purse));
        }
    }

    private int boldStake(EvenGame g, int purse) {
        int most = mostStake(g, purse);
        for (int s = 1; s < most; s++) {
            if (purse + g.gains[s] >= goal) {
                return s;
            }
        }
        return most;
    }

    private long planWorth(int plan, EvenGame g, int purse, int t, int what) {
        int rungs = plan == DOUBLING ? RUNGS : 1;
        for (int rung = 0; rung < rungs; rung++) {
            layRung(plan, g, rung, what);
        }
        for (int left = 1; left <= t; left++) {
            for (int rung = 0; rung < rungs; rung++) {
                // A stake held down by the LIMIT stays there when doubled, and
                // one held down by the PURSE leaves 0: the rung tells enough.
                int lostRung = Math.min(rung + 1, rungs - 1);
                playRung(g, rung, lostRung, left, what);
            }
        }
        return worth[t & 1][purse];
    }

    private void layRung(int plan, EvenGame g, int rung, int what) {
        for (int p = 0; p <= goal; p++) {
            int cell = rung * WIDTH + p;
            staked[cell] = isPlayed(p) ? planned(plan, g, p, rung) : 0;
            worth[0][cell] = endWorth(what, p);
        }
    }

    private void playRung(EvenGame g, int rung, int lostRung, int left, int what) {
        long[] before = worth[(left - 1) & 1];
        long[] after = worth[left & 1];
        long played = what == PLAYS ? 1L << (PART_BITS * left) : 0;
        for (int p = 0; p <= goal; p++) {
            int cell = rung * WIDTH + p;
            int s = staked[cell];
            after[cell] = s < 1
                ? PARTS * before[cell]
                : played + mixed(g, before[raised(g, p, s)], before[lostRung * WIDTH + p - s]);
        }
    }

    /** The greatest worth of each purse, a row for each count of turns left. */
    private static final class Chart {
        private final int what;
        private final long[][] rows = new long[MOST_TURNS + 1][WIDTH];
        private int first = 0;
        private int end = 0;
        // Rows hold good until games or goal change, so they are kept.
        private int known = 0;

        Chart(int what) {
            this.what = what;
        }

        void forget() {
            known = 0;
        }

        void cover(int from, int to) {
            if (from != first || to != end) {
                first = from;
                end = to;
                known = 0;
            }
        }
    }

    private static class EvenGame {
        private final int chance;
        private final int limit;
        // Charts ask for every stake at every purse: each gain is kept once.
        private final int[] gains = new int[MOST_STAKE + 1];

        EvenGame(int chance, int limit) {
            this.chance = chance;
            this.limit = limit;
        }

        final void keepGains() {
            for (int s = 1; s <= MOST_STAKE; s++) {
                gains[s] = gain(s);
            }
        }

        int gain(int stake) {
            return stake;
        }

        int mark() {
            return 1;
        }
    }

    private static class LongGame extends EvenGame {
        private final int times;

        LongGame(int chance, int limit, int times) {
            super(chance, limit);
            this.times = times;
        }

        int gain(int stake) {
            return super.gain(stake) * times;
        }

        int mark() {
            return super.mark() + 10;
        }
    }

    private static final class TaxedGame extends LongGame {
        private final int tax;

        TaxedGame(int chance, int limit, int times, int tax) {
            super(chance, limit, times);
            this.tax = tax;
        }

        int gain(int stake) {
            int up = super.gain(stake);
            // It is the tax that is rounded down, not what is left of the win.
            return up - up * tax / TENTHS;
        }

        int mark() {
            return super.mark() + 100;
        }
    }
}
