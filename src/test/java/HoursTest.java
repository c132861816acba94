/** Promises 6, 11, 12, 13 and 15: ships, and what hours do to them and to the ice. */
public final class HoursTest {
    private static final int NONE = IcePilots.NONE;
    private static final Checks c = new Checks();

    public static void main(String[] args) {
        ships();
        tells();
        calls();
        hoursGoBy();
        growing();
        melting();
        drifting();
        pressing();
        fuelOfMoves();
        whatStopsAMove();
        heldShips();
        cutting();
        channelsCloseByTime();
        channelsCloseByDrift();
        shipsActInTurn();
        linesAndWaiting();
        foretelling();
        nothingIsLost();
        c.finish("HoursTest");
    }

    private static Run row(int columns) {
        Run x = new Run();
        x.gulf(1, columns);
        return x;
    }

    private static void ships() {
        Run x = new Run();
        x.gulf(3, 3);
        x.land(2, 2, true);
        c.same("strength -1", x.ship(-1, NONE, 0, 0), NONE);
        c.same("strength 201", x.ship(201, NONE, 0, 0), NONE);
        c.same("fuel -2", x.ship(1, -2, 0, 0), NONE);
        c.same("fuel 0", x.ship(1, 0, 0, 0), NONE);
        c.same("fuel 5001", x.ship(1, 5001, 0, 0), NONE);
        c.same("row 3", x.ship(1, NONE, 3, 0), NONE);
        c.same("column -1", x.ship(1, NONE, 0, -1), NONE);
        c.same("land", x.ship(1, NONE, 2, 2), NONE);
        c.same("no ships", x.count(2), 0);
        c.same("least", x.ship(0, 1, 0, 0), 0);
        c.same("a ship is there", x.ship(0, 1, 0, 0), NONE);
        c.same("most", x.ship(200, 5000, 0, 1), 1);
        for (int k = 2; k < 8; k++) {
            c.same("ship " + k, x.ship(1, NONE, k / 3, k % 3), k);
        }
        x.land(2, 2, false);
        c.same("there are 8", x.ship(1, NONE, 2, 2), NONE);
        c.same("ships", x.count(2), 8);
    }

    private static void tells() {
        Run x = new Run();
        x.gulf(3, 3);
        x.ice(2, 1, 80, 3, false);
        x.ship(42, 17, 2, 1);
        int[] due = {42, 17, 2, 1, 1, 0, 0, NONE, 0, 0};
        for (int what = 0; what < due.length; what++) {
            c.same("tell(0, " + what + ")", x.tell(0, what), due[what]);
        }
        x.ship(1, NONE, 0, 0);
        c.same("no fuel", x.tell(1, 1), NONE);
        c.same("what -1", x.tell(0, -1), NONE);
        c.same("what 10", x.tell(0, 10), NONE);
        c.same("ship -1", x.tell(-1, 0), NONE);
        c.same("ship 2", x.tell(2, 0), NONE);
        c.same("ship far", x.tell(Integer.MAX_VALUE, 0), NONE);
    }

    private static void calls() {
        Run x = row(2);
        x.ship(1, NONE, 0, 0);
        c.yes("call(0, 9999)", x.call(0, 9999));
        c.same("told", x.tell(0, 5), 9999);
        c.no("call(0, 10000)", x.call(0, 10000));
        c.no("call(0, -1)", x.call(0, -1));
        c.no("call(1, 5)", x.call(1, 5));
        c.no("call(-1, 5)", x.call(-1, 5));
        c.same("told stays", x.tell(0, 5), 9999);
        c.yes("call(0, 0)", x.call(0, 0));
        c.same("told 0", x.tell(0, 5), 0);
    }

    private static void hoursGoBy() {
        Run x = new Run();
        c.same("hours(0)", x.hours(0), NONE);
        c.same("hours(-1)", x.hours(-1), NONE);
        c.same("hours(101)", x.hours(101), NONE);
        c.same("hours(1)", x.hours(1), 1);
        for (int k = 1; k <= 9; k++) {
            c.same("hours(100)", x.hours(100), 1 + 100 * k);
        }
        c.same("one above 1000", x.hours(100), NONE);
        c.same("ahead above 1000", x.ahead(100, 0, 4), -2);
        c.same("ahead to 1000", x.ahead(99, 0, 4), 0);
        c.same("hour stays", x.count(3), 901);
        c.same("to 1000", x.hours(99), 1000);
        c.same("no more", x.hours(1), NONE);
        c.same("none ahead", x.ahead(1, 0, 4), -2);
    }

    private static void growing() {
        Run x = row(4);
        x.ice(0, 1, 99, 20, true);
        x.ice(0, 2, 61, 0, false);
        x.land(0, 3, true);
        x.weather(0, 1, 39, 2, 0);
        x.hours(1);
        c.same("open water", x.cell(0, 0, 1), 9);
        c.same("nearly full", x.cell(0, 1, 1), 99);
        c.same("ridges don't grow", x.cell(0, 1, 2), 20);
        c.same("between", x.cell(0, 2, 1), 64);
        c.same("land", x.cell(0, 3, 1), 0);
        c.same("grown", x.count(7), 12);
        c.same("melted", x.count(8), 0);
    }

    private static void melting() {
        Run x = row(3);
        x.ice(0, 0, 100, 19, true);
        x.ice(0, 1, 9, 20, false);
        x.ice(0, 2, 10, 100, false);
        x.weather(0, 1, -40, 2, 0);
        x.hours(1);
        c.same("level 100", x.cell(0, 0, 1), 90);
        c.same("ridged 19", x.cell(0, 0, 2), 19);
        c.same("level 9", x.cell(0, 1, 1), 9);
        c.same("ridged 20", x.cell(0, 1, 2), 19);
        c.same("level 10", x.cell(0, 2, 1), 9);
        c.same("ridged 100", x.cell(0, 2, 2), 95);
        c.same("melted", x.count(8), 10 + 1 + 1 + 5);
    }

    private static void drifting() {
        int[][] to = {{0, 1}, {1, 2}, {2, 1}, {1, 0}};
        for (int way = 0; way < 4; way++) {
            Run x = new Run();
            x.gulf(3, 3);
            x.ice(1, 1, 79, 30, false);
            x.weather(0, 1, 0, way, 10);
            x.hours(1);
            c.same("sent " + way, x.cell(1, 1, 1), 76);
            c.same("come " + way, x.cell(to[way][0], to[way][1], 1), 3);
            c.same("ridges stay " + way, x.cell(1, 1, 2), 30);
            x.land(to[way][0], to[way][1], true);
            x.weather(1, 1, 0, way, 50);
            x.hours(1);
            c.same("land takes none " + way, x.cell(1, 1, 1), 76);
        }
        Run x = row(4);
        x.ice(0, 0, 100, 0, false);
        x.ice(0, 2, 40, 0, true);
        x.ice(0, 3, 40, 0, false);
        x.weather(0, 3, 0, 1, 50);
        x.hours(1);
        c.same("all at once: first", x.cell(0, 0, 1), 75);
        c.same("all at once: second", x.cell(0, 1, 1), 25);
        c.same("fast sends none", x.cell(0, 2, 1), 40);
        c.same("at the edge", x.cell(0, 3, 1), 40);
        x.hours(1);
        c.same("fast takes", x.cell(0, 2, 1), 46);
        c.same("sends and takes", x.cell(0, 1, 1), 25 - 6 + 18);
    }

    private static void pressing() {
        Run x = row(3);
        x.ice(0, 0, 100, 0, false);
        x.ice(0, 1, 100, 4, false);
        x.ice(0, 2, 90, 0, true);
        x.weather(0, 1, 0, 1, 50);
        x.hours(1);
        c.same("takes as much as it sends", x.cell(0, 1, 1), 100);
        c.same("no ridge there", x.cell(0, 1, 2), 4);
        c.same("full", x.cell(0, 2, 1), 100);
        c.same("pressed to ridges", x.cell(0, 2, 2), 15);
        c.same("burden", x.cell(0, 2, 5), 65);
        // Ice grows first, so that more is sent and pressed in the same hour.
        Run y = row(2);
        y.ice(0, 0, 60, 0, false);
        y.ice(0, 1, 80, 0, false);
        y.weather(0, 1, 40, 1, 50);
        y.hours(1);
        c.same("grown, then sent", y.cell(0, 0, 1), 64 - 16);
        c.same("grown, then pressed", y.cell(0, 1, 1), 98);
    }

    private static void fuelOfMoves() {
        Run x = row(3);
        x.ice(0, 1, 100, 49, true);
        x.ship(99, 10, 0, 0);
        c.takes(x, 0, "east;", 1);
        c.same("ahead: fuel", x.ahead(1, 0, 2), 0);
        x.hours(1);
        c.same("1 and a tenth of 99", x.tell(0, 1), 0);
        c.same("moved", x.tell(0, 6), 1);
        x.hours(1);
        c.same("without fuel it waits", x.tell(0, 3), 1);
        c.same("held line", x.tell(0, 7), 0);
        c.same("not done", x.tell(0, 8), 0);
        c.same("a ship beside a breaker without fuel", x.ship(0, NONE, 0, 0), 1);
        x.ice(0, 0, 100, 0, true);
        c.same("is not held", x.tell(1, 4), 0);
        Run y = row(2);
        y.ice(0, 1, 100, 49, true);
        y.ship(99, 9, 0, 0);
        Checks.orders(y, 0, "east;");
        y.hours(1);
        c.same("one too little", y.tell(0, 3), 0);
        c.same("fuel stays", y.tell(0, 1), 9);
        int[] burdens = {0, 9, 10, 19, 20};
        int[] takes = {1, 1, 2, 2, 3};
        for (int k = 0; k < burdens.length; k++) {
            Run b = row(2);
            b.ice(0, 1, 1, burdens[k], true);
            b.ship(20, 50, 0, 0);
            Checks.orders(b, 0, "east;");
            b.hours(1);
            c.same("fuel for burden " + burdens[k], b.tell(0, 1), 50 - takes[k]);
        }
        Run z = row(2);
        z.ice(0, 1, 100, 49, true);
        z.ship(99, NONE, 0, 0);
        Checks.orders(z, 0, "east;");
        z.hours(1);
        c.same("others need none", z.tell(0, 3), 1);
        c.same("and have none", z.tell(0, 1), NONE);
    }

    private static void whatStopsAMove() {
        String[] ways = {"north", "east", "south", "west"};
        int[][] to = {{0, 1}, {1, 2}, {2, 1}, {1, 0}};
        for (int way = 0; way < 4; way++) {
            Run x = new Run();
            x.gulf(3, 3);
            x.ship(50, NONE, 1, 1);
            Checks.orders(x, 0, ways[way] + ";");
            x.ice(to[way][0], to[way][1], 100, 1, true);
            x.hours(1);
            c.same("burden 51 " + way, x.tell(0, 8), 0);
            x.ice(to[way][0], to[way][1], 100, 0, true);
            x.image(0);
            x.land(to[way][0], to[way][1], true);
            x.hours(1);
            c.same("land " + way, x.tell(0, 8), 0);
            x.again(0);
            x.ship(1, NONE, to[way][0], to[way][1]);
            x.hours(1);
            c.same("a ship " + way, x.tell(0, 8), 0);
            x.again(0);
            x.hours(1);
            c.same("burden 50 " + way, x.tell(0, 8), 1);
            c.same("row " + way, x.tell(0, 2), to[way][0]);
            c.same("column " + way, x.tell(0, 3), to[way][1]);
            x.hours(1);
            c.same("the edge " + way, x.tell(0, 8), 0);
            c.same("moved once " + way, x.tell(0, 6), 1);
        }
    }

    private static void heldShips() {
        Run x = new Run();
        x.gulf(3, 3);
        x.ice(1, 1, 100, 0, true);
        x.ship(49, NONE, 1, 1);
        c.same("held", x.tell(0, 4), 1);
        Checks.orders(x, 0, "west;");
        x.hours(1);
        c.same("a held ship stays", x.tell(0, 3), 1);
        x.ship(49, NONE, 0, 1);
        c.same("no breaker beside", x.tell(0, 4), 1);
        x.ship(0, 1, 0, 0);
        c.same("a breaker at a corner", x.tell(0, 4), 1);
        int[][] beside = {{2, 1}, {1, 0}, {1, 2}};
        for (int[] at : beside) {
            x.image(0);
            x.ship(0, 1, at[0], at[1]);
            c.same("a breaker beside", x.tell(0, 4), 0);
            x.again(0);
        }
        x.ship(0, 1, 1, 2);
        x.hours(1);
        c.same("it goes", x.tell(0, 3), 0);
        Run y = row(2);
        y.ice(0, 0, 2, 0, true);
        y.ship(0, 100, 0, 0);
        c.same("a breaker is held too", y.tell(0, 4), 1);
        Checks.orders(y, 0, "if held=1:cut;east;");
        y.hours(1);
        c.same("a held breaker cuts", y.tell(0, 8), 1);
        c.same("its channel frees it", y.tell(0, 4), 0);
        y.hours(1);
        c.same("it goes on", y.tell(0, 3), 1);
    }

    private static void cutting() {
        Run x = row(1);
        x.ship(0, 14, 0, 0);
        Checks.orders(x, 0, "cut;");
        x.hours(3);
        c.same("not while there is one", x.tell(0, 8), 0);
        c.same("channel", x.cell(0, 0, 3), 0);
        c.same("fuel", x.tell(0, 1), 9);
        x.hours(5);
        c.same("closed behind hour 7", x.cell(0, 0, 3), NONE);
        x.hours(1);
        c.same("cut anew", x.cell(0, 0, 3), 8);
        c.same("fuel", x.tell(0, 1), 4);
        x.ice(0, 0, 50, 0, false);
        x.hours(1);
        c.same("too little fuel", x.tell(0, 8), 0);
        c.same("no channel", x.cell(0, 0, 3), NONE);
        c.same("cutting is no move", x.tell(0, 6), 0);
        Run y = row(1);
        y.ship(0, NONE, 0, 0);
        Checks.orders(y, 0, "cut;");
        y.hours(1);
        c.same("no breaker", y.tell(0, 8), 0);
        c.same("no channel", y.cell(0, 0, 3), NONE);
        c.same("line", y.tell(0, 7), 0);
    }

    private static void channelsCloseByTime() {
        int[] colds = {-40, -1, 0, 9, 10, 19, 20, 30, 39, 40};
        int[] open = {7, 7, 7, 7, 6, 6, 5, 4, 4, 3};
        for (int k = 0; k < colds.length; k++) {
            Run x = row(1);
            x.ship(0, 5, 0, 0);
            Checks.orders(x, 0, "if hour=2:cut;");
            x.weather(0, 1000, colds[k], 0, 0);
            x.hours(2 + open[k]);
            c.same("open at cold " + colds[k], x.cell(0, 0, 3), 2);
            x.hours(1);
            c.same("closed at cold " + colds[k], x.cell(0, 0, 3), NONE);
        }
        Run x = row(1);
        x.ship(0, 5, 0, 0);
        Checks.orders(x, 0, "cut;");
        x.hours(5);
        x.weather(5, 1, 40, 0, 0);
        x.hours(1);
        c.same("or later: a cold hour closes an old one", x.cell(0, 0, 3), NONE);
    }

    private static void channelsCloseByDrift() {
        Run x = row(3);
        x.ice(0, 0, 19, 0, false);
        x.ship(0, 5, 0, 1);
        Checks.orders(x, 0, "cut;");
        x.weather(0, 1, 0, 1, 10);
        x.hours(1);
        c.same("0 is none", x.cell(0, 1, 3), 0);
        x.ice(0, 0, 20, 0, false);
        x.weather(1, 1, 0, 3, 50);
        x.hours(1);
        c.same("ice that goes closes none", x.cell(0, 1, 3), 0);
        x.weather(2, 1, 0, 1, 10);
        x.hours(1);
        c.same("ice that comes does", x.cell(0, 1, 3), NONE);
        Run y = row(2);
        y.ice(0, 0, 100, 0, false);
        y.ship(0, 5, 0, 1);
        Checks.orders(y, 0, "cut;");
        y.weather(0, 1, 0, 1, 50);
        y.hours(1);
        c.same("in the hour of its cut", y.cell(0, 1, 3), NONE);
        c.same("it was done", y.tell(0, 8), 1);
        c.same("it took fuel", y.tell(0, 1), 0);
    }

    private static void shipsActInTurn() {
        Run x = row(3);
        x.ship(0, NONE, 0, 1);
        x.ship(0, NONE, 0, 0);
        Checks.orders(x, 0, "east;");
        Checks.orders(x, 1, "east;");
        x.hours(1);
        c.same("the first makes room", x.tell(1, 3), 1);
        Run y = row(3);
        y.ship(0, NONE, 0, 0);
        y.ship(0, NONE, 0, 1);
        Checks.orders(y, 0, "east;");
        Checks.orders(y, 1, "east;");
        y.hours(1);
        c.same("the later one does not", y.tell(0, 3), 0);
        c.same("it goes itself", y.tell(1, 3), 2);
        Run z = row(3);
        for (int k = 0; k < 3; k++) {
            z.ship(0, NONE, 0, k);
            Checks.orders(z, k, k == 1 ? "call 55;" : "if told=55:wait;");
        }
        z.hours(1);
        c.same("told too late", z.tell(0, 7), NONE);
        c.same("told in time", z.tell(2, 7), 0);
        c.same("not told by itself", z.tell(1, 5), 0);
        c.same("a call is done", z.tell(1, 8), 1);
        z.hours(1);
        c.same("told an hour ago", z.tell(0, 7), 0);
    }

    private static void linesAndWaiting() {
        Run x = row(2);
        x.ship(0, NONE, 0, 0);
        x.hours(1);
        c.same("no orders: line", x.tell(0, 7), NONE);
        c.same("no orders: done", x.tell(0, 8), 0);
        Checks.orders(x, 0, "if hour>5:east;north;east;");
        c.same("the latest hour had no line", x.tell(0, 7), NONE);
        x.hours(1);
        c.same("the first that holds", x.tell(0, 7), 1);
        c.same("could not be done", x.tell(0, 8), 0);
        c.same("no later line is done instead", x.tell(0, 3), 0);
        Checks.orders(x, 0, "if hour=2:wait;");
        c.same("the latest hour's line stays", x.tell(0, 7), 1);
        x.hours(1);
        c.same("wait", x.tell(0, 7), 0);
        c.same("wait is done", x.tell(0, 8), 1);
        x.hours(1);
        c.same("none holds", x.tell(0, 7), NONE);
        c.same("none is done", x.tell(0, 8), 0);
    }

    private static void foretelling() {
        Run x = new Run();
        x.gulf(2, 4);
        x.ice(0, 2, 50, 0, false);
        x.ice(1, 2, 90, 3, false);
        x.weather(0, 3, 40, 1, 30);
        x.weather(3, 5, -40, 2, 50);
        x.ship(100, 60, 0, 0);
        x.ship(50, NONE, 1, 0);
        Checks.orders(x, 0, "if hour=1:cut;if hour=3:south;east;");
        Checks.orders(x, 1, "if near>0:wait;east;");
        x.hours(1);
        String before = Told.now(x);
        for (int n = 1; n <= 8; n++) {
            int[][] told = new int[2][4];
            for (int ship = 0; ship < 2; ship++) {
                for (int what = 0; what < 4; what++) {
                    told[ship][what] = x.ahead(n, ship, what);
                }
            }
            int level = x.ahead(n, -7, 4);
            int ridged = x.ahead(n, 99, 5);
            c.yes("ahead changes nothing", Told.now(x).equals(before));
            x.image(0);
            int moved0 = x.tell(0, 6);
            int moved1 = x.tell(1, 6);
            x.hours(n);
            for (int ship = 0; ship < 2; ship++) {
                c.same("row", told[ship][0], x.tell(ship, 2));
                c.same("column", told[ship][1], x.tell(ship, 3));
                c.same("fuel", told[ship][2], x.tell(ship, 1));
            }
            c.same("moved", told[0][3], x.tell(0, 6) - moved0);
            c.same("moved", told[1][3], x.tell(1, 6) - moved1);
            c.same("level", level, x.count(4));
            c.same("ridged", ridged, x.count(5));
            x.again(0);
        }
        int[] none = {0, -1, 101, Integer.MAX_VALUE};
        for (int n : none) {
            c.same("ahead(" + n + ")", x.ahead(n, 0, 4), -2);
        }
        for (int what = 0; what < 4; what++) {
            c.same("ship 2", x.ahead(1, 2, what), -2);
            c.same("ship -1", x.ahead(1, -1, what), -2);
        }
        c.same("what 6", x.ahead(1, 0, 6), -2);
        c.same("what -1", x.ahead(1, 0, -1), -2);
        c.same("fuel of others", x.ahead(1, 1, 2), NONE);
    }

    private static void nothingIsLost() {
        int seed = 12345;
        for (int run = 0; run < 6; run++) {
            Run x = new Run();
            x.gulf(8, 8);
            for (int k = 0; k < 70; k++) {
                seed = seed * 1103515245 + 12345;
                disturb(x, seed);
                c.same("ice in balance", x.count(4) + x.count(5), x.count(6) + x.count(7) - x.count(8));
            }
        }
    }

    private static void disturb(Run x, int seed) {
        int a = seed >>> 16 & 7;
        int b = seed >>> 20 & 7;
        switch (seed >>> 24 & 3) {
            case 0: x.ice(a, b, seed >>> 8 & 63, seed >>> 9 & 63, (seed >>> 15 & 1) == 1); break;
            case 1: x.land(a, b, (seed >>> 15 & 3) == 0); break;
            case 2: x.weather(x.count(3), 5, (seed >>> 9) % 41, seed >>> 15 & 3, (seed >>> 6 & 63) % 51); break;
            default: x.hours(1 + (seed >>> 13 & 3)); break;
        }
    }
}
