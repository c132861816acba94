/** The boundary cases of promises 17 to 21, and of the turns in the Terms. */
public final class TurnsBoundsTest {
    private static final int NONE = IcePilots.NONE;
    private static final Checks c = new Checks();

    public static void main(String[] args) {
        passageOfMostAndLeast();
        passageOfOtherNumbers();
        passagesAreAtMostSix();
        clearOfNone();
        clearLeavesTheOrderTold();
        clearMakesRoomForSix();
        turnsOfOneAndTwoBreakers();
        turnsOfOtherBreakers();
        turnsOfNoPassages();
        turnsOfOnePassage();
        turnsOfSixPassages();
        turnsOfNoWaiting();
        turnOfTheFirstAndTheLast();
        turnOfNone();
        turnBeforeAnyTurns();
        costOfOtherBreakers();
        costOfOrdersThatAreNone();
        costOfDigitsBehind();
        costOfNoPassages();
        costOfTheMostWaiting();
        costChangesNothing();
        breakersFreeWhenItBegins();
        breakersAlike();
        ordersAlike();
        ordersAlikeBehindTheFirst();
        c.finish("TurnsBoundsTest");
    }

    private static Run passages(int[]... all) {
        Run x = new Run();
        for (int[] n : all) {
            c.yes(Checks.say("passage", n), x.passage(n[0], n[1], n[2]) != NONE);
        }
        return x;
    }

    private static Run alike(int n) {
        int[][] all = new int[n][];
        for (int k = 0; k < n; k++) {
            all[k] = new int[] {0, 1, 1};
        }
        return passages(all);
    }

    private static void order(String name, Run x, int... due) {
        for (int k = 0; k < due.length; k++) {
            c.same(name + ": " + Checks.say("turn", k), x.turn(k), due[k]);
        }
        c.same(name + ": none behind", x.turn(due.length), NONE);
    }

    // Promise 17: passage.

    private static void passageOfMostAndLeast() {
        Run x = Scenes.busy();
        int[][] good = {{0, 1, 1}, {1, 1, 1}, {999, 1, 1}, {1000, 1, 1}, {0, 2, 1}, {0, 99, 1}, {0, 100, 1}, {0, 1, 2},
            {0, 1, 99}, {0, 1, 100}, {1000, 100, 100}};
        for (int[] n : good) {
            Run y = c.taken(x, Checks.say("passage", n), 3, r -> r.passage(n[0], n[1], n[2]));
            c.same("so many", y.count(9), 4);
        }
        // Each number is the one that was given: the second waits for the first to be through.
        Run z = passages(new int[] {1000, 100, 1}, new int[] {1000, 1, 100});
        c.same("most of all, and 100 hours of it", z.cost(010, 1), 100 * 100);
        c.same("the other way about", z.cost(001, 1), 1);
    }

    private static void passageOfOtherNumbers() {
        Run x = Scenes.busy();
        for (int from : Checks.outside(0, 1000)) {
            c.refused(x, Checks.say("passage", from, 1, 1), NONE, r -> r.passage(from, 1, 1));
        }
        for (int other : Checks.outside(1, 100)) {
            c.refused(x, Checks.say("passage", 0, other, 1), NONE, r -> r.passage(0, other, 1));
            c.refused(x, Checks.say("passage", 0, 1, other), NONE, r -> r.passage(0, 1, other));
            c.refused(x, Checks.say("passage", other, other, other), NONE, r -> r.passage(other, other, other));
        }
    }

    private static void passagesAreAtMostSix() {
        Run x = Scenes.busy();
        for (int k = 3; k < 6; k++) {
            c.same("passage " + k, x.passage(k, 1, 1), k);
        }
        c.refused(x, "a seventh passage", NONE, r -> r.passage(0, 1, 1));
        c.refused(x, "a seventh passage of most", NONE, r -> r.passage(1000, 100, 100));
        c.same("six", x.count(9), 6);
    }

    // Promise 18: clear.

    private static void clearOfNone() {
        Run x = new Run();
        x.clear();
        c.told("clear of no passages", x, new Run());
    }

    private static void clearLeavesTheOrderTold() {
        Run x = alike(6);
        x.turns(1);
        x.clear();
        c.same("no passages", x.count(9), 0);
        order("the order told", x, 0, 1, 2, 3, 4, 5);
        c.same("no cost of none", x.cost(0543210, 1), 0);
        x.passage(0, 1, 1);
        order("the order told, behind a new passage", x, 0, 1, 2, 3, 4, 5);
        x.clear();
        x.turns(1);
        order("an order of none", x);
    }

    private static void clearMakesRoomForSix() {
        Run x = alike(6);
        x.clear();
        for (int k = 0; k < 6; k++) {
            c.same("passage anew " + k, x.passage(10, 1, 1), k);
        }
        c.refused(x, "a seventh passage", NONE, r -> r.passage(0, 1, 1));
    }

    // Promise 19: turns.

    private static void turnsOfOneAndTwoBreakers() {
        Run x = passages(new int[] {0, 5, 1}, new int[] {0, 2, 10}, new int[] {3, 1, 1});
        Run one = c.taken(x, "turns(1)", 4, r -> r.turns(1));
        order("turns(1)", one, 1, 2, 0);
        Run two = c.taken(x, "turns(2)", 0, r -> r.turns(2));
        order("turns(2)", two, 0, 1, 2);
    }

    private static void turnsOfOtherBreakers() {
        for (int breakers : Checks.outside(1, 2)) {
            c.refused(Scenes.busy(), Checks.say("turns", breakers), NONE, r -> r.turns(breakers));
            c.refused(new Run(), "new: " + Checks.say("turns", breakers), NONE, r -> r.turns(breakers));
        }
    }

    private static void turnsOfNoPassages() {
        Run x = Scenes.busy();
        x.clear();
        for (int breakers = 1; breakers <= 2; breakers++) {
            int n = breakers;
            Run y = c.taken(x, Checks.say("turns", n) + " of none", 0, r -> r.turns(n));
            order("of none", y);
        }
    }

    private static void turnsOfOnePassage() {
        Run x = passages(new int[] {1000, 100, 100});
        for (int breakers = 1; breakers <= 2; breakers++) {
            int n = breakers;
            Run y = c.taken(x, Checks.say("turns", n) + " of one", 0, r -> r.turns(n));
            order("of one", y, 0);
        }
    }

    private static void turnsOfSixPassages() {
        // The later its number, the more it is worth, so that the last one of all orders is the best.
        int[][] all = new int[6][];
        for (int k = 0; k < 6; k++) {
            all[k] = new int[] {0, 1, 1 + k};
        }
        Run x = passages(all);
        Run one = c.taken(x, "turns(1) of six", 5 + 2 * 4 + 3 * 3 + 4 * 2 + 5, r -> r.turns(1));
        order("of six", one, 5, 4, 3, 2, 1, 0);
        Run two = c.taken(x, "turns(2) of six", 3 + 4 + 2 * (1 + 2), r -> r.turns(2));
        order("of six by two", two, 4, 5, 2, 3, 0, 1);
        c.same("the cost of this order", two.cost(0103254, 2), 13);
    }

    /** The order of the passages' numbers costs 1, and one of the later orders costs nothing. */
    private static void turnsOfNoWaiting() {
        Run x = passages(new int[] {10, 1, 1}, new int[] {5, 1, 1}, new int[] {5, 1, 1});
        c.same("in their order", x.cost(0210, 2), 1);
        c.same("turns(2)", x.turns(2), 0);
        order("no waiting", x, 1, 2, 0);
    }

    // Promise 20: turn.

    private static void turnOfTheFirstAndTheLast() {
        for (int n = 1; n <= 6; n++) {
            Run x = alike(n);
            x.turns(1);
            c.same("the first of " + n, x.turn(0), 0);
            c.same("the last of " + n, x.turn(n - 1), n - 1);
            for (int k : Checks.outside(0, n - 1)) {
                c.refused(x, Checks.say("turn", k) + " of " + n, NONE, r -> r.turn(k));
            }
        }
    }

    private static void turnOfNone() {
        Run x = new Run();
        x.turns(1);
        for (int k : new int[] {Integer.MIN_VALUE, -1, 0, 1, 5, 6, Integer.MAX_VALUE}) {
            c.refused(x, Checks.say("turn", k) + " of none", NONE, r -> r.turn(k));
        }
    }

    private static void turnBeforeAnyTurns() {
        Run x = alike(6);
        order("no order is at hand", x);
        x.cost(0543210, 1);
        order("cost brings none", x);
        x.turns(3);
        order("a refused one brings none", x);
    }

    // Promise 21: cost.

    private static void costOfOtherBreakers() {
        Run x = Scenes.busy();
        for (int breakers : Checks.outside(1, 2)) {
            c.refused(x, Checks.say("cost", 0210, breakers), NONE, r -> r.cost(0210, breakers));
            c.refused(new Run(), "new: " + Checks.say("cost", 0, breakers), NONE, r -> r.cost(0, breakers));
        }
        c.taken(x, "cost(0210, 1)", 7 + 15 * 100, r -> r.cost(0210, 1));
        c.taken(x, "cost(0210, 2)", 100 * 6, r -> r.cost(0210, 2));
    }

    private static void costOfOrdersThatAreNone() {
        int[] due = {0, 0, 010, 0210, 03210, 043210, 0543210};
        for (int n = 1; n <= 6; n++) {
            Run x = alike(n);
            int last = 3 * (n - 1);
            int size = n;
            int good = due[n];
            int of = good & ~(7 << last);
            c.taken(x, "an order of " + n, n * (n - 1) / 2, r -> r.cost(good, 1));
            c.refused(x, "a passage that is not there, of " + n, NONE, r -> r.cost(of | size << last, 1));
            c.refused(x, "passage 7, of " + n, NONE, r -> r.cost(of | 7 << last, 2));
            if (n > 1) {
                c.refused(x, "the first one twice, of " + n, NONE, r -> r.cost(of, 1));
                c.refused(x, "the one before the last twice, of " + n, NONE, r -> r.cost(of | size - 2 << last, 2));
                c.refused(x, "all of them at the least", NONE, r -> r.cost(Integer.MIN_VALUE, 1));
            }
            c.refused(x, "all of them at the most", NONE, r -> r.cost(Integer.MAX_VALUE, 1));
            c.refused(x, "all of them -1", NONE, r -> r.cost(-1, 2));
        }
    }

    private static void costOfDigitsBehind() {
        int[] order = {0, 0, 001, 0012, 00123, 001234, 0012345};
        for (int n = 0; n <= 6; n++) {
            Run x = alike(n);
            int due = n * (n - 1) / 2;
            int length = 3 * n;
            int good = order[n];
            for (int behind : new int[] {0, 1, 7, 077, -1}) {
                c.taken(x, n + " and behind them " + behind, due, r -> r.cost(good | behind << length, 1));
            }
            c.taken(x, n + " and the sign", due, r -> r.cost(good | Integer.MIN_VALUE, 1));
        }
    }

    private static void costOfNoPassages() {
        Run x = Scenes.busy();
        x.clear();
        for (int order : new int[] {Integer.MIN_VALUE, -1, 0, 1, 0777777, 01000000, Integer.MAX_VALUE}) {
            c.taken(x, Checks.say("cost", order, 1), 0, r -> r.cost(order, 1));
            c.taken(x, Checks.say("cost", order, 2), 0, r -> r.cost(order, 2));
        }
    }

    private static void costOfTheMostWaiting() {
        int[] first = {1000, 100, 100};
        int[] other = {0, 100, 100};
        Run x = passages(first, other, other, other, other, other);
        c.same("the latest one first", x.cost(0543210, 1), 100 * (1100 + 1200 + 1300 + 1400 + 1500));
        c.same("the latest one last", x.cost(0054321, 1), 100 * (100 + 200 + 300 + 400));
        c.same("by two", x.cost(0543210, 2), 100 * (100 + 200 + 300 + 400));
        Run y = passages(first, first, other, other, other, other);
        c.same("the latest ones first, by two", y.cost(0543210, 2), 100 * (1100 + 1100 + 1200 + 1200));
    }

    private static void costChangesNothing() {
        Run x = Scenes.busy();
        Run y = x.fork();
        y.cost(0012, 2);
        y.cost(0210, 1);
        c.told("cost", y, x);
    }

    // How the breakers go.

    private static void breakersFreeWhenItBegins() {
        Run x = passages(new int[] {0, 5, 1}, new int[] {5, 1, 1}, new int[] {5, 1, 1});
        c.same("free just when it can begin", x.cost(0210, 1), 1);
        Run y = passages(new int[] {0, 5, 1}, new int[] {4, 1, 1});
        c.same("free an hour later", y.cost(010, 1), 1);
        Run z = passages(new int[] {0, 5, 1}, new int[] {6, 1, 1}, new int[] {6, 1, 1});
        c.same("free an hour earlier", z.cost(0210, 1), 1);
    }

    /** Breakers that are free at the same time are one as good as the other; then the one that is free first goes. */
    private static void breakersAlike() {
        Run x = passages(new int[] {0, 3, 1}, new int[] {0, 3, 1}, new int[] {0, 9, 1}, new int[] {0, 1, 1});
        c.same("free at 3 both", x.cost(03210, 2), 3 + 3);
        Run y = passages(new int[] {0, 3, 1}, new int[] {0, 4, 1}, new int[] {0, 9, 1}, new int[] {0, 1, 1});
        c.same("free at 3 and at 4", y.cost(03210, 2), 3 + 4);
        Run z = passages(new int[] {0, 4, 1}, new int[] {0, 3, 1}, new int[] {0, 9, 1}, new int[] {0, 1, 1});
        c.same("free at 4 and at 3", z.cost(03210, 2), 3 + 4);
        Run later = passages(new int[] {50, 50, 1}, new int[] {0, 3, 1}, new int[] {0, 3, 7});
        c.same("one is kept by a passage that can't begin yet", later.cost(0210, 2), 7 * 3);
    }

    private static void ordersAlike() {
        for (int breakers = 1; breakers <= 2; breakers++) {
            for (int n = 0; n <= 6; n++) {
                Run x = alike(n);
                x.turns(breakers);
                int[] due = new int[n];
                for (int k = 0; k < n; k++) {
                    due[k] = k;
                }
                order("alike, " + n + " by " + breakers, x, due);
            }
        }
        Run y = passages(new int[] {0, 1, 1}, new int[] {0, 2, 2});
        c.same("two orders of the same cost", y.cost(010, 1), y.cost(001, 1));
        c.same("turns(1)", y.turns(1), 2);
        order("the first by its first passage", y, 0, 1);
        Run z = passages(new int[] {0, 2, 2}, new int[] {0, 1, 1});
        c.same("turns(1)", z.turns(1), 2);
        order("the first by its first passage", z, 0, 1);
    }

    private static void ordersAlikeBehindTheFirst() {
        Run x = passages(new int[] {0, 1, 1}, new int[] {0, 1, 1}, new int[] {0, 1, 9}, new int[] {0, 1, 1});
        c.same("turns(1)", x.turns(1), 1 + 2 + 3);
        order("the first by its second passage", x, 2, 0, 1, 3);
        Run y = passages(new int[] {0, 1, 1}, new int[] {0, 1, 8}, new int[] {0, 1, 1}, new int[] {0, 1, 9});
        c.same("turns(1)", y.turns(1), 8 + 2 + 3);
        order("the first by its third passage", y, 3, 1, 0, 2);
    }
}
