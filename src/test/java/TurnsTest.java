/** Promises 17 to 21: passages, and the order of them with the least waiting. */
public final class TurnsTest {
    private static final int NONE = IcePilots.NONE;
    private static final Checks c = new Checks();

    public static void main(String[] args) {
        passages();
        cleared();
        costs();
        noOrders();
        twoBreakers();
        leastOfAll();
        c.finish("TurnsTest");
    }

    private static void passages() {
        Run x = new Run();
        c.same("from -1", x.passage(-1, 1, 1), NONE);
        c.same("from 1001", x.passage(1001, 1, 1), NONE);
        c.same("hours 0", x.passage(0, 0, 1), NONE);
        c.same("hours 101", x.passage(0, 101, 1), NONE);
        c.same("worth 0", x.passage(0, 1, 0), NONE);
        c.same("worth 101", x.passage(0, 1, 101), NONE);
        c.same("none", x.count(9), 0);
        c.same("least", x.passage(0, 1, 1), 0);
        c.same("most", x.passage(1000, 100, 100), 1);
        for (int k = 2; k < 6; k++) {
            c.same("passage " + k, x.passage(k, k, k), k);
        }
        c.same("there are 6", x.passage(0, 1, 1), NONE);
        c.same("count", x.count(9), 6);
    }

    private static void cleared() {
        Run x = new Run();
        x.passage(9, 1, 1);
        x.passage(0, 1, 1);
        c.same("nothing at hand", x.turn(0), NONE);
        c.same("turns(1)", x.turns(1), 0);
        c.same("turn(0)", x.turn(0), 1);
        c.same("turn(1)", x.turn(1), 0);
        c.same("turn(2)", x.turn(2), NONE);
        c.same("turn(-1)", x.turn(-1), NONE);
        x.passage(0, 1, 1);
        c.same("a new passage is not in it", x.turn(2), NONE);
        c.same("turns(0)", x.turns(0), NONE);
        c.same("turns(3)", x.turns(3), NONE);
        c.same("the order stays", x.turn(0), 1);
        x.clear();
        c.same("no passages", x.count(9), 0);
        c.same("the order stays behind clear", x.turn(0), 1);
        c.same("numbers begin anew", x.passage(5, 5, 5), 0);
        c.same("the order stays yet", x.turn(1), 0);
        x.clear();
        c.same("turns of none", x.turns(2), 0);
        c.same("an order of none", x.turn(0), NONE);
    }

    private static void costs() {
        Run x = new Run();
        x.passage(0, 10, 2);
        x.passage(5, 1, 3);
        x.passage(4, 2, 100);
        c.same("0 1 2", x.cost(0210, 1), 3 * 5 + 100 * 7);
        c.same("2 1 0", x.cost(0012, 1), 3 * 1 + 2 * 7);
        c.same("1 0 2", x.cost(0201, 1), 2 * 6 + 100 * 12);
        c.same("0 1 2 by two", x.cost(0210, 2), 100 * 2);
        c.same("2 1 0 by two", x.cost(0012, 2), 2 * 6);
        c.same("digits behind", x.cost(0777012, 1), 3 * 1 + 2 * 7);
        c.same("a seventh digit behind", x.cost(01000012, 1), 3 * 1 + 2 * 7);
        c.same("all bits behind", x.cost(~0777 | 0012, 1), 3 * 1 + 2 * 7);
        c.same("the sign behind", x.cost(Integer.MIN_VALUE | 0012, 1), 3 * 1 + 2 * 7);
        c.same("none at hand by cost", x.turn(0), NONE);
        c.same("turns(2)", x.turns(2), 3);
        c.same("first", x.turn(0), 0);
        c.same("second", x.turn(1), 2);
        c.same("third", x.turn(2), 1);
    }

    private static void noOrders() {
        Run x = new Run();
        c.same("none of none", x.cost(0, 1), 0);
        c.same("none of none, digits count for nothing", x.cost(0777777, 2), 0);
        c.same("no breakers", x.cost(0, 0), NONE);
        c.same("three breakers", x.cost(0, 3), NONE);
        c.same("seven digits that count for nothing", x.cost(01000000, 1), 0);
        for (int order : new int[] {-1, -8, Integer.MIN_VALUE, Integer.MAX_VALUE}) {
            c.same("none of none by one, told " + order, x.cost(order, 1), 0);
            c.same("none of none by two, told " + order, x.cost(order, 2), 0);
            c.same("no breakers, told " + order, x.cost(order, 0), NONE);
            c.same("three breakers, told " + order, x.cost(order, 3), NONE);
        }
        x.passage(0, 1, 1);
        x.passage(0, 1, 1);
        x.passage(0, 1, 1);
        c.same("0 twice", x.cost(0100, 1), NONE);
        c.same("1 twice", x.cost(0110, 1), NONE);
        c.same("a passage that is not there", x.cost(0310, 1), NONE);
        c.same("far", x.cost(0770, 1), NONE);
        c.same("below 0", x.cost(-1, 1), NONE);
        c.same("below 0, 0 three times", x.cost(Integer.MIN_VALUE, 1), NONE);
        c.same("good", x.cost(0210, 1), 3);
        x.passage(0, 1, 1);
        x.passage(0, 1, 1);
        x.passage(0, 1, 1);
        c.same("all six", x.cost(0543210, 1), 15);
        c.same("all six by two", x.cost(0012345, 2), 1 + 1 + 2 + 2);
        c.same("five of six", x.cost(0443210, 1), NONE);
        c.same("six of six, a digit behind", x.cost(01543210, 1), 15);
        c.same("six of six, all bits behind", x.cost(~0777777 | 0543210, 1), 15);
        c.same("five of six, a digit behind", x.cost(05443210, 1), NONE);
        x.clear();
        c.same("none any more", x.cost(-1, 1), 0);
    }

    private static void twoBreakers() {
        Run x = new Run();
        // The lesser of two alike goes, so the first breaker is busy to 100 and the second is free at 0.
        x.passage(50, 50, 1);
        x.passage(0, 3, 1);
        x.passage(0, 3, 7);
        c.same("0 1 2", x.cost(0210, 2), 7 * 3);
        c.same("0 2 1", x.cost(0120, 2), 3);
        c.same("turns(2)", x.turns(2), 0);
        c.same("first", x.turn(0), 1);
        c.same("second", x.turn(1), 2);
        c.same("third", x.turn(2), 0);
    }

    private static void leastOfAll() {
        int seed = 99;
        for (int run = 0; run < 60; run++) {
            Run x = new Run();
            int n = run % 7;
            int[] from = new int[6];
            int[] takes = new int[6];
            int[] worth = new int[6];
            for (int k = 0; k < n; k++) {
                seed = seed * 1103515245 + 12345;
                from[k] = (seed >>> 16) % (run < 30 ? 8 : 200);
                takes[k] = 1 + (seed >>> 8) % (run < 30 ? 3 : 100);
                worth[k] = 1 + (seed >>> 12) % (run < 30 ? 2 : 100);
                c.same("passage", x.passage(from[k], takes[k], worth[k]), k);
            }
            for (int breakers = 1; breakers <= 2; breakers++) {
                int[] best = {Integer.MAX_VALUE, 0};
                search(new int[][] {from, takes, worth}, new int[n], 0, breakers, best);
                c.same("least of run " + run, x.turns(breakers), best[0]);
                int order = 0;
                for (int k = 0; k < n; k++) {
                    c.same("turn " + k + " of run " + run, x.turn(k), best[1] >> 3 * k & 7);
                    order |= x.turn(k) << 3 * k;
                }
                c.same("its cost", x.cost(order, breakers), best[0]);
            }
        }
    }

    private static void search(int[][] passages, int[] order, int at, int breakers, int[] best) {
        if (at == order.length) {
            int cost = costOf(passages, order, breakers);
            if (cost < best[0]) {
                best[0] = cost;
                best[1] = 0;
                for (int k = 0; k < at; k++) {
                    best[1] |= order[k] << 3 * k;
                }
            }
            return;
        }
        for (int p = 0; p < order.length; p++) {
            boolean used = false;
            for (int k = 0; k < at; k++) {
                used |= order[k] == p;
            }
            if (!used) {
                order[at] = p;
                search(passages, order, at + 1, breakers, best);
            }
        }
    }

    private static int costOf(int[][] passages, int[] order, int breakers) {
        int[] free = new int[breakers];
        int cost = 0;
        for (int p : order) {
            int by = 0;
            for (int b = 1; b < breakers; b++) {
                if (free[b] < free[by]) {
                    by = b;
                }
            }
            int begins = Math.max(free[by], passages[0][p]);
            cost += (begins - passages[0][p]) * passages[2][p];
            free[by] = begins + passages[1][p];
        }
        return cost;
    }
}
