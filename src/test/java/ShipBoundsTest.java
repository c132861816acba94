/** The boundary cases of promises 6, 11, 12, 13 and 15, and of the ships' bounds in the Terms. */
public final class ShipBoundsTest {
    private static final int NONE = IcePilots.NONE;
    private static final Checks c = new Checks();

    public static void main(String[] args) {
        shipOfMostAndLeastStrength();
        shipOfMostAndLeastFuel();
        shipOfNoFuel();
        shipInEveryCorner();
        shipWhereThereIsNoCell();
        shipWhereNoSeaIs();
        shipWhereAShipIs();
        shipsAreAtMostEight();
        shipAtFirst();
        callOfMostAndLeast();
        callOfOtherNumbers();
        callOfNoShip();
        hoursOfMostAndLeast();
        hoursOfOtherNumbers();
        hoursToTheLast();
        hoursAboveTheLast();
        aheadOfMostAndLeast();
        aheadOfNoHours();
        aheadToTheLastHour();
        aheadOfNoShip();
        aheadOfIceWhateverTheShip();
        aheadOfAnotherWhat();
        aheadChangesNothing();
        aheadOfMovesInTheseHours();
        tellOfNoShip();
        tellOfAnotherWhat();
        tellOfFuelToTheLast();
        tellOfTheLastLine();
        tellOfLinesBehindNoHour();
        c.finish("ShipBoundsTest");
    }

    // Promise 6: ship.

    private static void shipOfMostAndLeastStrength() {
        Run x = Scenes.busy();
        for (int strength : new int[] {0, 1, 199, 200}) {
            Run y = c.taken(x, Checks.say("ship", strength, NONE, 1, 1), 2, r -> r.ship(strength, NONE, 1, 1));
            c.ship("strength " + strength, y, 2, strength, NONE, 1, 1);
            c.counts("strength " + strength, y, 3, 4, 3);
        }
        for (int strength : Checks.outside(0, 200)) {
            c.refused(x, Checks.say("ship", strength, NONE, 1, 1), NONE, r -> r.ship(strength, NONE, 1, 1));
            c.refused(x, Checks.say("ship", strength, 9, 1, 1), NONE, r -> r.ship(strength, 9, 1, 1));
        }
    }

    private static void shipOfMostAndLeastFuel() {
        Run x = Scenes.busy();
        for (int fuel : new int[] {1, 2, 4999, 5000}) {
            Run y = c.taken(x, Checks.say("ship", 50, fuel, 1, 1), 2, r -> r.ship(50, fuel, 1, 1));
            c.ship("fuel " + fuel, y, 2, 50, fuel, 1, 1);
        }
        for (int fuel : Checks.outside(1, 5000)) {
            c.refused(x, Checks.say("ship", 50, fuel, 1, 1), NONE, r -> r.ship(50, fuel, 1, 1));
        }
    }

    private static void shipOfNoFuel() {
        Run x = Scenes.busy();
        c.taken(x, "ship(50, NONE, 1, 1)", 2, r -> r.ship(50, NONE, 1, 1));
        c.refused(x, "ship(50, -2, 1, 1)", NONE, r -> r.ship(50, -2, 1, 1));
    }

    private static void shipInEveryCorner() {
        Run x = Scenes.sea(3, 4);
        int[][] corners = {{0, 0}, {0, 3}, {2, 0}, {2, 3}};
        for (int[] at : corners) {
            Run y = c.taken(x, Checks.say("ship", 5, 6, at[0], at[1]), 0, r -> r.ship(5, 6, at[0], at[1]));
            c.ship("in the corner", y, 0, 5, 6, at[0], at[1]);
            c.same("it is there", y.cell(at[0], at[1], 6), 0);
        }
    }

    private static void shipWhereThereIsNoCell() {
        Run x = Scenes.busy();
        for (int row : Checks.outside(0, 2)) {
            c.refused(x, Checks.say("ship", 5, 6, row, 1), NONE, r -> r.ship(5, 6, row, 1));
        }
        for (int column : Checks.outside(0, 3)) {
            c.refused(x, Checks.say("ship", 5, 6, 1, column), NONE, r -> r.ship(5, 6, 1, column));
        }
    }

    private static void shipWhereNoSeaIs() {
        Run x = Scenes.busy();
        c.refused(x, "ship on land", NONE, r -> r.ship(5, 6, 2, 3));
        x.land(2, 3, false);
        c.taken(x, "ship where land was", 2, r -> r.ship(5, 6, 2, 3));
    }

    private static void shipWhereAShipIs() {
        Run x = Scenes.busy();
        c.refused(x, "ship where ship 0 is", NONE, r -> r.ship(5, 6, 0, 0));
        c.refused(x, "ship where ship 1 is", NONE, r -> r.ship(5, NONE, 2, 0));
        Run y = Scenes.row(2);
        y.ship(0, NONE, 0, 0);
        Checks.orders(y, 0, "east;");
        y.hours(1);
        c.taken(y, "ship where one was", 1, r -> r.ship(5, 6, 0, 0));
        c.refused(y, "ship where it went", NONE, r -> r.ship(5, 6, 0, 1));
    }

    private static void shipsAreAtMostEight() {
        Run x = Scenes.sea(3, 3);
        for (int k = 0; k < 8; k++) {
            c.same("ship " + k, x.ship(k, k == 0 ? NONE : k, k / 3, k % 3), k);
            c.same("so many", x.count(2), k + 1);
        }
        c.refused(x, "a ninth ship", NONE, r -> r.ship(5, NONE, 2, 2));
        c.refused(x, "a ninth breaker", NONE, r -> r.ship(5, 5, 2, 2));
        c.ship("the eighth", x, 7, 7, 7, 2, 1);
        c.same("no ship 8", x.tell(8, 0), NONE);
    }

    private static void shipAtFirst() {
        Run x = Scenes.sea(3, 3);
        x.hours(5);
        x.ship(7, 8, 2, 1);
        c.ship("at first", x, 0, 7, 8, 2, 1, 0, 0, 0, NONE, 0, 0);
        x.hours(100);
        c.ship("without orders it waits", x, 0, 7, 8, 2, 1, 0, 0, 0, NONE, 0, 0);
    }

    // Promise 11: call.

    private static void callOfMostAndLeast() {
        Run x = Scenes.busy();
        for (int number : new int[] {0, 1, 9998, 9999}) {
            for (int k = 0; k < 2; k++) {
                int ship = k;
                Run y = c.taken(x, Checks.say("call", ship, number), r -> r.call(ship, number));
                c.same("told", y.tell(ship, 5), number);
                c.same("the other is not", y.tell(1 - ship, 5), x.fork().tell(1 - ship, 5));
            }
        }
    }

    private static void callOfOtherNumbers() {
        Run x = Scenes.busy();
        for (int number : Checks.outside(0, 9999)) {
            c.refused(x, Checks.say("call", 1, number), r -> r.call(1, number));
        }
    }

    private static void callOfNoShip() {
        Run x = Scenes.busy();
        for (int ship : Checks.outside(0, 1)) {
            c.refused(x, Checks.say("call", ship, 7), r -> r.call(ship, 7));
        }
        Run y = Scenes.sea(3, 3);
        for (int k = 0; k < 8; k++) {
            y.ship(0, NONE, k / 3, k % 3);
        }
        c.taken(y, "call(7, 7) of eight", r -> r.call(7, 7));
        c.refused(y, "call(8, 7) of eight", r -> r.call(8, 7));
    }

    // Promise 12: hours.

    private static void hoursOfMostAndLeast() {
        Run x = Scenes.busy();
        for (int n : new int[] {1, 2, 99, 100}) {
            Run y = c.taken(x, Checks.say("hours", n), 3 + n, r -> r.hours(n));
            c.same("the hour", y.count(3), 3 + n);
        }
    }

    private static void hoursOfOtherNumbers() {
        for (int n : Checks.outside(1, 100)) {
            c.refused(Scenes.busy(), Checks.say("hours", n), NONE, r -> r.hours(n));
            c.refused(at(1000), Checks.say("hours", n) + " at 1000", NONE, r -> r.hours(n));
        }
    }

    private static Run at(int hour) {
        Run x = Scenes.row(3);
        x.ice(0, 0, 100, 0, false);
        x.weather(0, 1000, 1, 1, 1);
        x.ship(0, NONE, 0, 2);
        for (int then = 0; then < hour; then += 100) {
            x.hours(Math.min(100, hour - then));
        }
        return x;
    }

    private static void hoursToTheLast() {
        c.taken(at(900), "hours(100) at 900", 1000, r -> r.hours(100));
        c.taken(at(901), "hours(99) at 901", 1000, r -> r.hours(99));
        c.taken(at(999), "hours(1) at 999", 1000, r -> r.hours(1));
        c.taken(at(998), "hours(1) at 998", 999, r -> r.hours(1));
    }

    private static void hoursAboveTheLast() {
        c.refused(at(901), "hours(100) at 901", NONE, r -> r.hours(100));
        c.refused(at(902), "hours(99) at 902", NONE, r -> r.hours(99));
        c.refused(at(999), "hours(2) at 999", NONE, r -> r.hours(2));
        c.refused(at(1000), "hours(1) at 1000", NONE, r -> r.hours(1));
    }

    // Promise 13: ahead.

    private static void aheadOfMostAndLeast() {
        Run x = Scenes.busy();
        int[] asked = {2, 3, 1};
        for (int n : new int[] {1, 2, 99, 100}) {
            Run y = x.fork();
            y.hours(n);
            for (int ship = 0; ship < 2; ship++) {
                for (int what = 0; what < 3; what++) {
                    c.same(Checks.say("ahead", n, ship, what), x.ahead(n, ship, what), y.tell(ship, asked[what]));
                }
                int moved = y.tell(ship, 6) - x.fork().tell(ship, 6);
                c.same(Checks.say("ahead", n, ship, 3), x.ahead(n, ship, 3), moved);
            }
            c.same(Checks.say("ahead", n, 0, 4), x.ahead(n, 0, 4), y.count(4));
            c.same(Checks.say("ahead", n, 0, 5), x.ahead(n, 0, 5), y.count(5));
        }
    }

    private static void aheadOfNoHours() {
        Run x = Scenes.busy();
        for (int n : Checks.outside(1, 100)) {
            for (int k = 0; k <= 5; k++) {
                int what = k;
                c.refused(x, Checks.say("ahead", n, 0, what), -2, r -> r.ahead(n, 0, what));
            }
        }
    }

    private static void aheadToTheLastHour() {
        for (int k = 0; k <= 5; k++) {
            int what = k;
            String call = Checks.say("ahead, what", what);
            int due = new int[] {0, 2, NONE, 0, 100, 0}[what];
            c.taken(at(900), "100 hours " + call, due, r -> r.ahead(100, 0, what));
            c.refused(at(901), "100 hours at 901 " + call, -2, r -> r.ahead(100, 0, what));
            c.taken(at(901), "99 hours at 901 " + call, due, r -> r.ahead(99, 0, what));
            c.taken(at(999), "1 hour at 999 " + call, due, r -> r.ahead(1, 0, what));
            c.refused(at(999), "2 hours at 999 " + call, -2, r -> r.ahead(2, 0, what));
            c.refused(at(1000), "1 hour at 1000 " + call, -2, r -> r.ahead(1, 0, what));
        }
    }

    private static void aheadOfNoShip() {
        Run x = Scenes.busy();
        for (int ship : Checks.outside(0, 1)) {
            for (int k = 0; k <= 3; k++) {
                int what = k;
                c.refused(x, Checks.say("ahead", 1, ship, what), -2, r -> r.ahead(1, ship, what));
            }
        }
    }

    private static void aheadOfIceWhateverTheShip() {
        Run x = Scenes.busy();
        int level = x.fork().ahead(5, 0, 4);
        int ridged = x.fork().ahead(5, 0, 5);
        for (int ship : Checks.outside(0, 1)) {
            c.taken(x, Checks.say("ahead", 5, ship, 4), level, r -> r.ahead(5, ship, 4));
            c.taken(x, Checks.say("ahead", 5, ship, 5), ridged, r -> r.ahead(5, ship, 5));
        }
        Run y = new Run();
        y.ice(0, 0, 3, 4, false);
        c.taken(y, "level without ships", 3, r -> r.ahead(100, 0, 4));
        c.taken(y, "ridged without ships", 4, r -> r.ahead(100, NONE, 5));
    }

    private static void aheadOfAnotherWhat() {
        Run x = Scenes.busy();
        for (int what : Checks.outside(0, 5)) {
            c.refused(x, Checks.say("ahead", 1, 0, what), -2, r -> r.ahead(1, 0, what));
            c.refused(x, Checks.say("ahead", 1, 9, what), -2, r -> r.ahead(1, 9, what));
        }
    }

    private static void aheadChangesNothing() {
        Run x = Scenes.busy();
        for (int k = 0; k <= 5; k++) {
            int what = k;
            Run y = x.fork();
            y.ahead(1, 0, what);
            y.ahead(100, 1, what);
            c.told(Checks.say("ahead", what), y, x);
        }
    }

    private static void aheadOfMovesInTheseHours() {
        Run x = Scenes.row(2);
        x.ship(0, NONE, 0, 0);
        Checks.orders(x, 0, "if column=0:east;west;");
        c.same("moves of all 100", x.ahead(100, 0, 3), 100);
        x.hours(7);
        c.same("moves that were are not counted", x.ahead(1, 0, 3), 1);
        c.same("moves of all 100 once more", x.ahead(100, 0, 3), 100);
        c.same("moves that were", x.tell(0, 6), 7);
        x.orders(0);
        c.same("no moves", x.ahead(100, 0, 3), 0);
    }

    // Promise 15: tell.

    private static void tellOfNoShip() {
        Run x = Scenes.busy();
        for (int ship : Checks.outside(0, 1)) {
            for (int k = 0; k <= 9; k++) {
                int what = k;
                c.refused(x, Checks.say("tell", ship, what), NONE, r -> r.tell(ship, what));
            }
        }
        Run y = Scenes.sea(3, 3);
        for (int k = 0; k < 8; k++) {
            y.ship(k, NONE, k / 3, k % 3);
        }
        c.taken(y, "tell(7, 0) of eight", 7, r -> r.tell(7, 0));
        c.refused(y, "tell(8, 0) of eight", NONE, r -> r.tell(8, 0));
    }

    private static void tellOfAnotherWhat() {
        Run x = Scenes.busy();
        for (int what : Checks.outside(0, 9)) {
            c.refused(x, Checks.say("tell", 0, what), NONE, r -> r.tell(0, what));
        }
    }

    /** 0 is no NONE: a breaker without fuel stays a breaker. */
    private static void tellOfFuelToTheLast() {
        Run x = Scenes.row(3);
        x.ship(0, 1, 0, 0);
        Checks.orders(x, 0, "east;");
        x.hours(1);
        c.ship("the last fuel", x, 0, 0, 0, 0, 1, 0, 0, 1, 0, 1, 1);
        x.hours(1);
        c.ship("no more fuel", x, 0, 0, 0, 0, 1, 0, 0, 1, 0, 0, 1);
        x.ice(0, 2, 2, 0, true);
        x.ship(0, NONE, 0, 2);
        c.same("a ship beside it is not held", x.tell(1, 4), 0);
    }

    private static void tellOfTheLastLine() {
        Run x = Scenes.row(1);
        x.ship(0, NONE, 0, 0);
        Checks.orders(x, 0, "if hour=9:wait;".repeat(19) + "wait;");
        c.same("20 lines", x.tell(0, 9), 20);
        c.same("no line yet", x.tell(0, 7), NONE);
        x.hours(1);
        c.same("the last line", x.tell(0, 7), 19);
        x.hours(9);
        c.same("the first line", x.tell(0, 7), 0);
        c.same("done", x.tell(0, 8), 1);
    }

    private static void tellOfLinesBehindNoHour() {
        Run x = Scenes.row(1);
        x.ship(0, NONE, 0, 0);
        Checks.orders(x, 0, "wait;");
        x.hours(1);
        c.same("held", x.tell(0, 7), 0);
        x.end(0);
        c.same("no orders any more", x.orders(0), 0);
        c.same("it held in the latest hour", x.tell(0, 7), 0);
        c.same("it was done in the latest hour", x.tell(0, 8), 1);
        x.hours(1);
        c.same("none held in this hour", x.tell(0, 7), NONE);
        c.same("none was done in this hour", x.tell(0, 8), 0);
    }
}
