import java.util.ArrayList;
import java.util.List;
import java.util.function.Consumer;
import java.util.function.ToLongFunction;

/** What the tests share: answers against what is due, and refusals that change nothing. */
final class Check {
    static final Consumer<StakeHouse> NEW = x -> { };
    static final Consumer<StakeHouse> LEAST = Check::makeLeast;
    static final Consumer<StakeHouse> ORDINARY = Check::makeOrdinary;
    static final Consumer<StakeHouse> MOST = Check::makeMost;
    private static final List<Consumer<StakeHouse>> HOUSES = List.of(NEW, LEAST, ORDINARY, MOST);
    private static int wrong = 0;

    private Check() {
    }

    static void due(String call, long got, long want) {
        if (got != want) {
            wrong++;
            System.out.println(call + " answered " + got + ", due is " + want);
        }
    }

    static void end() {
        System.out.println(wrong == 0 ? "all answers are as due" : wrong + " answers are not as due");
        if (wrong != 0) {
            System.exit(1);
        }
    }

    /** A refusal that is due whatever the house: BAD comes ahead of STATE and FULL. */
    static void bad(String call, ToLongFunction<StakeHouse> asked) {
        for (Consumer<StakeHouse> made : HOUSES) {
            refused(call, StakeHouse.BAD, made, asked);
        }
    }

    /**
     * Two objects are made by the same calls and one of them gets the refused
     * call: all that can be asked must be answered alike by both behind it.
     * Each group of questions gets new objects, for none is promised to answer
     * more than 512 calls.
     */
    static void refused(String call, long want, Consumer<StakeHouse> made, ToLongFunction<StakeHouse> asked) {
        List<ToLists> groups = List.of(Check::numbers, Check::chances, Check::plans);
        for (ToLists group : groups) {
            StakeHouse spared = new StakeHouse();
            StakeHouse tried = new StakeHouse();
            made.accept(spared);
            made.accept(tried);
            due(call, asked.applyAsLong(tried), want);
            alike("behind the refused " + call, group.of(tried), group.of(spared));
        }
    }

    private static void alike(String where, List<String> got, List<String> want) {
        if (!got.equals(want)) {
            wrong++;
            List<String> changed = new ArrayList<>(got);
            changed.removeAll(want);
            System.out.println(where + " something has changed: " + changed);
        }
    }

    private interface ToLists {
        List<String> of(StakeHouse x);
    }

    private static List<String> numbers(StakeHouse x) {
        List<String> answers = new ArrayList<>();
        for (int what = 0; what < 3; what++) {
            answers.add("count(" + what + ") " + x.count(what));
        }
        answers.add("trace() " + x.trace());
        for (int p = 1; p < x.count(0); p++) {
            answers.add("told at " + p + " " + x.tell(p, 0));
        }
        for (int g = 0; g < x.count(2); g++) {
            for (int s = 1; s <= 32; s += 5) {
                answers.add("win(" + g + ", " + s + ") " + x.win(g, s));
            }
            answers.add("trace behind the wins " + x.trace());
        }
        answers.add("the next game " + x.game(0, 8, 1, 0, 1));
        return answers;
    }

    private static List<String> chances(StakeHouse x) {
        List<String> answers = new ArrayList<>();
        int goal = x.count(0);
        int t = x.count(1);
        int games = x.count(2);
        for (int p = 0; p <= goal; p++) {
            answers.add("best(" + p + ", " + t + ") " + x.best(p, t));
            answers.add("mean(" + p + ", " + t + ") " + x.mean(p, t));
            for (int g = 0; g < games; g++) {
                answers.add("stakes(" + g + ", " + p + ", " + t + ") " + x.stakes(g, p, t));
                answers.add("bold(" + g + ", " + p + ", " + t + ") " + x.bold(g, p, t));
            }
        }
        return answers;
    }

    private static List<String> plans(StakeHouse x) {
        List<String> answers = new ArrayList<>();
        int goal = x.count(0);
        int t = x.count(1);
        int games = x.count(2);
        for (int g = 0; g < games; g++) {
            for (int p = 0; p <= goal; p += 3) {
                for (int plan = 0; plan < 4; plan++) {
                    int what = (p + plan) % 4;
                    answers.add("plan(" + plan + ", " + g + ", " + p + ", " + t + ", " + what + ") "
                        + x.plan(plan, g, p, t, what));
                    answers.add("stake(" + plan + ", " + g + ", " + p + ") " + x.stake(plan, g, p));
                }
            }
        }
        return answers;
    }

    private static void makeLeast(StakeHouse x) {
        x.set(0, 2);
        x.set(1, 0);
        x.game(0, 7, 0, 0, 1);
        x.tell(1, 1);
        x.win(0, 1);
    }

    private static void makeOrdinary(StakeHouse x) {
        x.set(0, 9);
        x.set(1, 5);
        x.game(0, 8, 0, 0, 32);
        x.game(1, 5, 3, 0, 4);
        x.game(2, 9, 2, 3, 6);
        x.tell(3, 2);
        x.tell(5, 32);
        x.tell(8, 1);
        x.win(2, 5);
        ask(x, 4, 5);
    }

    private static void makeMost(StakeHouse x) {
        x.set(0, 32);
        x.set(1, 12);
        x.game(2, 7, 9, 8, 32);
        x.game(1, 3, 4, 0, 9);
        x.game(0, 9, 0, 0, 1);
        x.game(0, 6, 0, 0, 32);
        for (int p = 1; p < 32; p += 2) {
            x.tell(p, 33 - p);
        }
        x.win(1, 32);
        ask(x, 20, 12);
    }

    /** What is kept between calls must not hide a change: so it is asked for beforehand. */
    private static void ask(StakeHouse x, int purse, int t) {
        x.best(purse, t);
        x.mean(purse, t);
        x.bold(1, purse, t);
        x.plan(3, 0, purse, t, 2);
    }
}
