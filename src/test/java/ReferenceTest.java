import java.util.ArrayList;
import java.util.HashMap;
import java.util.List;
import java.util.Map;
import java.util.Random;

/**
 * All promises at once: long runs of calls, right and wrong ones, against a
 * second program that follows the document's words in another way. Plans are
 * played out along every way that the turns may come; the best is sought from
 * the front, purse by purse; nothing is kept between calls.
 */
public final class ReferenceTest {
    private static final int RUNS = 120;
    private static final int CALLS = 512;
    private static int wrong = 0;

    public static void main(String[] args) {
        for (int run = 0; run < RUNS && wrong < 20; run++) {
            playRun(run);
        }
        System.out.println(wrong == 0 ? "all answers are as due" : wrong + " answers are not as due");
        if (wrong != 0) {
            System.exit(1);
        }
    }

    private static void playRun(int run) {
        Random r = new Random(run);
        StakeHouse x = new StakeHouse();
        Model m = new Model();
        // The plans' ways are 2^t: long horizons are for some runs alone.
        int longest = run % 8 == 0 ? 12 : 6;
        for (int i = 0; i < CALLS && wrong < 20; i++) {
            playCall(run, i, r, x, m, longest);
        }
    }

    private static void playCall(int run, int i, Random r, StakeHouse x, Model m, int longest) {
        int purse = number(r, 0, m.goal);
        int t = number(r, 0, m.horizon);
        int game = number(r, 0, m.games.size() - 1);
        int a = 0;
        int b = 0;
        switch (i < 4 ? 2 : r.nextInt(40)) {
            case 0:
                a = number(r, 2, 32);
                due(run, i, "set 0 " + a, x.set(0, a), m.setGoal(a));
                break;
            case 1:
                a = number(r, 0, longest);
                due(run, i, "set 1 " + a, x.set(1, a), m.setHorizon(a));
                break;
            case 2: case 3:
                int[] g = {number(r, 0, 2), number(r, 0, 16), number(r, 1, 9), number(r, 0, 10), number(r, 1, 32)};
                due(run, i, "game", x.game(g[0], g[1], g[2], g[3], g[4]), m.addGame(g));
                break;
            case 4:
                due(run, i, "drop", x.drop(), m.dropGame());
                break;
            case 5: case 6: case 7:
                a = number(r, 1, 32);
                due(run, i, "win " + game + " " + a, x.win(game, a), m.winAsked(game, a));
                break;
            case 8: case 9: case 10: case 11: case 12:
                due(run, i, "best " + purse + " " + t, x.best(purse, t), m.greatest(purse, t, true));
                break;
            case 13: case 14: case 15: case 16: case 17:
                due(run, i, "mean " + purse + " " + t, x.mean(purse, t), m.greatest(purse, t, false));
                break;
            case 18: case 19: case 20: case 21:
                due(run, i, "stakes " + game + " " + purse + " " + t, x.stakes(game, purse, t), m.bestStakes(game, purse, t));
                break;
            case 22: case 23: case 24: case 25:
                a = number(r, 0, 32);
                due(run, i, "tell " + purse + " " + a, x.tell(purse, a), m.tellNumber(purse, a));
                break;
            case 26: case 27: case 28:
                a = number(r, 0, 2);
                due(run, i, "stake " + a + " " + game + " " + purse, x.stake(a, game, purse), m.planStake(a, game, purse));
                break;
            case 29: case 30: case 31: case 32: case 33: case 34: case 35:
                a = number(r, 0, 3);
                b = number(r, 0, 3);
                due(run, i, "plan " + a + " " + game + " " + purse + " " + t + " " + b,
                    x.plan(a, game, purse, t, b), m.planWorth(a, game, purse, t, b));
                break;
            case 36: case 37:
                due(run, i, "bold " + game + " " + purse + " " + t, x.bold(game, purse, t), m.boldIsBest(game, purse, t));
                break;
            case 38:
                a = number(r, 0, 2);
                due(run, i, "count " + a, x.count(a), m.counted(a));
                break;
            default:
                due(run, i, "trace", x.trace(), m.trace);
                break;
        }
    }

    /** Mostly a number that is as told, now and then one beside it or far off. */
    private static int number(Random r, int least, int most) {
        switch (r.nextInt(60)) {
            case 0:
                return least - 1;
            case 1:
                return most + 1;
            case 2:
                return r.nextInt();
            default:
                return most < least ? least : least + r.nextInt(most - least + 1);
        }
    }

    private static void due(int run, int i, String call, long got, long want) {
        if (got != want) {
            wrong++;
            System.out.println("run " + run + ", call " + i + ": " + call + " answered " + got + ", due is " + want);
        }
    }

    private static final class Model {
        int goal = 8;
        int horizon = 4;
        long trace = 0;
        final List<int[]> games = new ArrayList<>();
        final Map<Integer, Integer> told = new HashMap<>();

        int setGoal(int v) {
            if (v < 2 || v > 32) {
                return -1;
            }
            int old = goal;
            goal = v;
            told.clear();
            return old;
        }

        int setHorizon(int v) {
            if (v < 0 || v > 12) {
                return -1;
            }
            int old = horizon;
            horizon = v;
            return old;
        }

        int addGame(int[] g) {
            boolean good = g[0] >= 0 && g[0] <= 2 && g[1] >= 0 && g[1] <= 16 && g[4] >= 1 && g[4] <= 32
                && (g[0] == 0 || g[2] >= 1 && g[2] <= 9)
                && (g[0] != 2 || g[3] >= 0 && g[3] <= 10);
            if (!good) {
                return -1;
            }
            if (games.size() == 4) {
                return -3;
            }
            games.add(g.clone());
            return games.size() - 1;
        }

        int dropGame() {
            if (games.isEmpty()) {
                return -2;
            }
            games.remove(games.size() - 1);
            return games.size();
        }

        boolean noGame(int game) {
            return game < 0 || game >= games.size();
        }

        boolean noSpot(int purse, int t) {
            return purse < 0 || purse > goal || t < 0 || t > horizon;
        }

        int winAsked(int game, int s) {
            if (noGame(game) || s < 1 || s > 32) {
                return -1;
            }
            trace += new int[] {1, 11, 111}[games.get(game)[0]];
            return won(games.get(game), s);
        }

        static int won(int[] g, int s) {
            int longWin = s * g[2];
            return g[0] == 0 ? s : g[0] == 1 ? longWin : longWin - (int) Math.floor(longWin * g[3] / 10.0);
        }

        long greatest(int purse, int t, boolean reach) {
            if (noSpot(purse, t)) {
                return -1;
            }
            return games.isEmpty() ? -2 : seek(games, purse, t, reach, new HashMap<>());
        }

        long seek(List<int[]> by, int purse, int t, boolean reach, Map<Integer, Long> seen) {
            if (purse == 0 || purse == goal || t == 0) {
                long at = reach ? (purse == goal ? 1 : 0) : purse;
                return at << 4 * t;
            }
            Long known = seen.get(purse * 100 + t);
            if (known != null) {
                return known;
            }
            long most = 16 * seek(by, purse, t - 1, reach, seen);
            for (int[] g : by) {
                for (int s = 1; s <= purse && s <= g[4]; s++) {
                    most = Math.max(most, turn(by, g, purse, s, t, reach, seen));
                }
            }
            seen.put(purse * 100 + t, most);
            return most;
        }

        long turn(List<int[]> by, int[] g, int purse, int s, int t, boolean reach, Map<Integer, Long> seen) {
            int up = purse + won(g, s) > goal ? goal : purse + won(g, s);
            return g[1] * seek(by, up, t - 1, reach, seen) + (16 - g[1]) * seek(by, purse - s, t - 1, reach, seen);
        }

        long bestStakes(int game, int purse, int t) {
            if (noGame(game) || noSpot(purse, t) || t == 0) {
                return -1;
            }
            if (purse == 0 || purse == goal) {
                return 0;
            }
            Map<Integer, Long> seen = new HashMap<>();
            long most = seek(games, purse, t, true, seen);
            long bits = 16 * seek(games, purse, t - 1, true, seen) == most ? 1 : 0;
            int[] g = games.get(game);
            for (int s = 1; s <= purse && s <= g[4]; s++) {
                if (turn(games, g, purse, s, t, true, seen) == most) {
                    bits += 1L << s;
                }
            }
            return bits;
        }

        int tellNumber(int purse, int v) {
            if (purse < 1 || purse >= goal || v < 0 || v > 32) {
                return -1;
            }
            Integer old = told.put(purse, v);
            return old == null ? 0 : old;
        }

        int planStake(int plan, int game, int purse) {
            if (plan < 0 || plan > 2 || noGame(game) || purse < 1 || purse >= goal) {
                return -1;
            }
            return stakeNow(plan, games.get(game), purse, 0);
        }

        int stakeNow(int plan, int[] g, int purse, int lostStake) {
            int most = Math.min(purse, g[4]);
            if (plan == 0) {
                int least = 1;
                while (least <= 32 && purse + won(g, least) < goal) {
                    least++;
                }
                return least <= most ? least : most;
            }
            if (plan == 1) {
                return 1;
            }
            if (plan == 2) {
                return Math.min(most, told.getOrDefault(purse, 0));
            }
            return Math.min(most, lostStake == 0 ? 1 : 2 * lostStake);
        }

        long planWorth(int plan, int game, int purse, int t, int what) {
            if (plan < 0 || plan > 3 || noGame(game) || noSpot(purse, t) || what < 0 || what > 3) {
                return -1;
            }
            return walk(plan, games.get(game), purse, t, what, 0, 1, 0);
        }

        /** Along one way: its weight, and the turns played on it so far. */
        long walk(int plan, int[] g, int purse, int t, int what, int lostStake, long weight, int played) {
            if (t == 0) {
                long[] end = {purse == goal ? 1 : 0, purse == 0 ? 1 : 0, purse, played};
                return weight * end[what];
            }
            int s = purse == 0 || purse == goal ? 0 : stakeNow(plan, g, purse, lostStake);
            if (s == 0) {
                return walk(plan, g, purse, t - 1, what, lostStake, weight * 16, played);
            }
            int up = Math.min(goal, purse + won(g, s));
            return walk(plan, g, up, t - 1, what, 0, weight * g[1], played + 1)
                + walk(plan, g, purse - s, t - 1, what, s, weight * (16 - g[1]), played + 1);
        }

        int boldIsBest(int game, int purse, int t) {
            if (noGame(game) || noSpot(purse, t)) {
                return -1;
            }
            long most = seek(List.of(games.get(game)), purse, t, true, new HashMap<>());
            return planWorth(0, game, purse, t, 0) == most ? 1 : 0;
        }

        int counted(int what) {
            return what == 0 ? goal : what == 1 ? horizon : what == 2 ? games.size() : -1;
        }
    }
}
