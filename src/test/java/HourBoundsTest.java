import java.util.Locale;

/** The boundary cases of the Terms' hour: what a ship sees, what it can do, and what comes of the ice. */
public final class HourBoundsTest {
    private static final int NONE = IcePilots.NONE;
    private static final String[] WAYS = {"north", "east", "south", "west"};
    private static final int[][] BESIDE = {{0, 1}, {1, 2}, {2, 1}, {1, 0}};
    private static final Checks c = new Checks();

    public static void main(String[] args) {
        burdenIsCut();
        burdenOfAChannel();
        heldAboveStrength();
        heldAtTheMostStrength();
        heldBesideABreaker();
        heldBesideNoBreaker();
        besideEndsAtTheEdge();
        seenHours();
        seenIce();
        seenFuel();
        seenHeld();
        seenNear();
        seenRowsAndColumns();
        seenBurdens();
        seenBurdenOfAThousand();
        seenTold();
        firstLineThatHolds();
        noLineHolds();
        aLineThatCantBeDone();
        shipsGoInTurn();
        moveByStrength();
        moveByFuel();
        moveThroughAChannel();
        moveOfAHeldShip();
        moveBeyondEveryEdge();
        moveToLandAndShips();
        cutByFuel();
        cutWhereAChannelIs();
        cutInTheLastHour();
        callOfMostAndLeast();
        callOfOneShipAlone();
        growthIsCut();
        meltingIsCut();
        meltingOfGreatRidges();
        iceOfTheFirstAndTheLastCell();
        noColdNoChange();
        driftIsCut();
        driftOfNoForce();
        driftEndsAtEveryEdge();
        driftStopsAtLandAndFastIce();
        driftIsAllAtOnce();
        pressedAboveAHundred();
        channelsCloseByTheHour();
        channelsCloseByALaterHour();
        channelsCloseByASingleGrain();
        c.finish("HourBoundsTest");
    }

    private static Run ship(Run x, int strength, int fuel, int row, int column, String orders) {
        int ship = x.ship(strength, fuel, row, column);
        Checks.orders(x, ship, orders);
        return x;
    }

    /** As much ridged ice as ice() does not lay, with a level of 100: 25 grains an hour are pressed. */
    private static Run pressedTo(int ridged) {
        Run x = Scenes.row(3);
        int toPress = Math.max(0, ridged - 100);
        x.ice(0, 1, 100, Math.min(ridged, 100), true);
        for (int hour = 0; toPress > 0; hour++) {
            int now = Math.min(25, toPress);
            x.ice(0, 0, 100, 0, false);
            x.weather(hour, 1, 0, 1, 2 * now);
            x.hours(1);
            toPress -= now;
        }
        x.ice(0, 0, 0, 0, false);
        c.cell("pressed", x, 0, 1, 1, 100, ridged, NONE, 1, 50 + ridged, NONE);
        return x;
    }

    /** The line that holds tells the number that was seen: no one less, no one more. */
    private static void sees(Run x, int ship, String what, int number) {
        Run y = x.fork();
        y.end(0);
        String text = String.format(Locale.ROOT, "if %1$s<%2$d:wait;if %1$s>%2$d:wait;if %1$s=%2$d:wait;", what, number);
        c.takes(y, ship, text, 3);
        y.hours(1);
        c.same("the line for " + what + "=" + number, y.tell(ship, 7), 2);
    }

    // Burden and held.

    private static void burdenIsCut() {
        int[][] due = {{0, 0, 0}, {1, 0, 0}, {2, 0, 1}, {3, 0, 1}, {99, 0, 49}, {100, 0, 50}, {0, 1, 1}, {1, 1, 1},
            {99, 99, 148}, {100, 100, 150}};
        for (int[] n : due) {
            Run x = new Run();
            x.ice(0, 0, n[0], n[1], false);
            c.same("burden of " + n[0] + " and " + n[1], x.cell(0, 0, 5), n[2]);
        }
        c.same("ridged above 100", pressedTo(101).cell(0, 1, 5), 151);
    }

    private static void burdenOfAChannel() {
        Run x = ship(Scenes.row(1), 0, 5, 0, 0, "cut;");
        x.ice(0, 0, 100, 100, true);
        c.same("burden", x.cell(0, 0, 5), 150);
        x.hours(1);
        c.same("burden with a channel", x.cell(0, 0, 5), 0);
        x.hours(6);
        c.same("to its last hour", x.cell(0, 0, 5), 0);
        x.hours(1);
        c.same("burden when it is closed", x.cell(0, 0, 5), 150);
    }

    private static void heldAboveStrength() {
        int[][] due = {{0, 0, 0, 0}, {0, 1, 0, 0}, {0, 2, 0, 1}, {49, 100, 0, 1}, {50, 100, 0, 0}, {51, 100, 0, 0},
            {149, 100, 100, 1}, {150, 100, 100, 0}};
        for (int[] n : due) {
            Run x = new Run();
            x.ice(0, 0, n[1], n[2], false);
            x.ship(n[0], NONE, 0, 0);
            c.same("held with strength " + n[0] + " in " + n[1] + " and " + n[2], x.tell(0, 4), n[3]);
        }
    }

    private static void heldAtTheMostStrength() {
        for (int ridged = 150; ridged <= 151; ridged++) {
            Run x = pressedTo(ridged);
            x.ship(200, NONE, 0, 1);
            c.same("held with strength 200 in " + (50 + ridged), x.tell(0, 4), ridged - 150);
        }
    }

    private static Run heldShip() {
        Run x = Scenes.sea(3, 3);
        x.ice(1, 1, 100, 0, true);
        x.ship(49, NONE, 1, 1);
        return x;
    }

    private static void heldBesideABreaker() {
        Run x = heldShip();
        c.same("held", x.tell(0, 4), 1);
        for (int[] at : BESIDE) {
            Run y = x.fork();
            y.ship(0, 1, at[0], at[1]);
            c.same("not held beside a breaker", y.tell(0, 4), 0);
        }
    }

    private static void heldBesideNoBreaker() {
        Run x = heldShip();
        int[][] corners = {{0, 0}, {0, 2}, {2, 0}, {2, 2}};
        for (int[] at : corners) {
            x.ship(200, 5000, at[0], at[1]);
            c.same("held with breakers at the corners", x.tell(0, 4), 1);
        }
        for (int k = 0; k < 3; k++) {
            x.ship(200, NONE, BESIDE[k][0], BESIDE[k][1]);
            c.same("held beside ships without fuel", x.tell(0, 4), 1);
        }
        Run y = new Run();
        y.ice(0, 0, 2, 0, false);
        y.ship(0, 5000, 0, 0);
        c.same("a breaker does not free itself", y.tell(0, 4), 1);
        Run z = Scenes.row(3);
        z.ice(0, 0, 2, 0, false);
        z.ship(0, NONE, 0, 0);
        z.ship(0, 1, 0, 2);
        c.same("held two cells away from a breaker", z.tell(0, 4), 1);
    }

    /** Where one row ends and the next one begins, no cell is beside another one. */
    private static void besideEndsAtTheEdge() {
        for (int columns : new int[] {2, 4, 7, 8}) {
            Run x = Scenes.sea(3, columns);
            x.ice(0, columns - 1, 2, 0, true);
            x.ice(2, 0, 2, 0, true);
            x.ship(0, NONE, 0, columns - 1);
            x.ship(0, NONE, 2, 0);
            if (columns > 2) {
                x.ship(0, 1, 1, 0);
                c.same("held, a breaker at the other edge", x.tell(0, 4), 1);
                sees(x, 0, "near", 0);
                c.same("not held, a breaker beside", x.tell(1, 4), 0);
                sees(x, 2, "near", 1);
            }
            sees(x, 0, "east", 999);
            sees(x, 1, "west", 999);
        }
    }

    // What orders see.

    private static void seenHours() {
        Run x = new Run();
        x.ship(0, NONE, 0, 0);
        Checks.orders(x, 0, "if hour=0:wait;");
        x.hours(1);
        c.same("hour 0", x.tell(0, 7), 0);
        for (int k = 0; k < 10; k++) {
            x.hours(k == 9 ? 98 : 100);
        }
        sees(x, 0, "hour", 999);
        x.hours(1);
        c.same("the end", x.count(3), 1000);
    }

    private static void seenIce() {
        for (int ice : new int[] {0, 1, 99, 100}) {
            Run x = new Run();
            x.ship(0, NONE, 0, 0);
            x.ice(0, 0, ice, 100 - ice, false);
            sees(x, 0, "level", ice);
            sees(x, 0, "ridge", 100 - ice);
        }
        Run y = pressedTo(101);
        y.ship(200, NONE, 0, 1);
        sees(y, 0, "ridge", 101);
    }

    private static void seenFuel() {
        for (int fuel : new int[] {1, 5000}) {
            Run x = new Run();
            x.ship(0, fuel, 0, 0);
            sees(x, 0, "fuel", fuel);
        }
        Run y = ship(Scenes.row(2), 0, 1, 0, 0, "east;");
        y.hours(1);
        sees(y, 0, "fuel", 0);
        Run z = new Run();
        z.ship(0, NONE, 0, 0);
        c.takes(z, 0, "if fuel=0:wait;if fuel>0:wait;if not fuel<0:wait;if fuel=1:wait;wait;", 5);
        z.hours(1);
        c.same("fuel is -1", z.tell(0, 7), 4);
    }

    private static void seenHeld() {
        Run x = heldShip();
        sees(x, 0, "held", 1);
        x.ship(0, 1, 0, 1);
        sees(x, 0, "held", 0);
    }

    private static void seenNear() {
        Run x = Scenes.sea(3, 3);
        x.ship(0, NONE, 1, 1);
        sees(x, 0, "near", 0);
        for (int k = 0; k < 4; k++) {
            x.ship(0, k % 2 == 0 ? NONE : 1, BESIDE[k][0], BESIDE[k][1]);
            sees(x, 0, "near", k + 1);
            sees(x, k + 1, "near", 1);
        }
        x.ship(0, NONE, 0, 0);
        sees(x, 1, "near", 2);
        x.ship(0, 1, 2, 2);
        sees(x, 0, "near", 4);
    }

    private static void seenRowsAndColumns() {
        for (int row : new int[] {0, 7}) {
            for (int column : new int[] {0, 7}) {
                Run x = Scenes.sea(8, 8);
                x.ship(0, NONE, row, column);
                sees(x, 0, "row", row);
                sees(x, 0, "column", column);
            }
        }
    }

    private static void seenBurdens() {
        for (int way = 0; way < 4; way++) {
            int row = BESIDE[way][0];
            int column = BESIDE[way][1];
            Run x = Scenes.sea(3, 3);
            x.ship(0, NONE, 1, 1);
            sees(x, 0, WAYS[way], 0);
            x.ice(row, column, 100, 100, true);
            sees(x, 0, WAYS[way], 150);
            x.ice(row, column, 1, 0, true);
            sees(x, 0, WAYS[way], 0);
            Run land = x.fork();
            land.land(row, column, true);
            sees(land, 0, WAYS[way], 999);
            x.ship(0, NONE, row, column);
            sees(x, 0, WAYS[way], 999);
            Run alone = new Run();
            alone.ship(0, NONE, 0, 0);
            sees(alone, 0, WAYS[way], 999);
        }
    }

    /** 999 is no most: a cell of the sea with more is seen as it is. */
    private static void seenBurdenOfAThousand() {
        for (int burden : new int[] {998, 999, 1000}) {
            Run x = pressedTo(burden - 50);
            x.ship(200, NONE, 0, 0);
            sees(x, 0, "east", burden);
        }
    }

    private static void seenTold() {
        Run x = new Run();
        x.ship(0, NONE, 0, 0);
        sees(x, 0, "told", 0);
        x.call(0, 9999);
        sees(x, 0, "told", 9999);
    }

    // Lines.

    private static void firstLineThatHolds() {
        Run x = ship(Scenes.row(3), 0, NONE, 0, 1, "if row=0:east;west;");
        x.hours(1);
        c.same("the first of two", x.tell(0, 7), 0);
        c.same("it is done", x.tell(0, 3), 2);
        Run y = ship(Scenes.row(3), 0, NONE, 0, 1, "west;if row=0:east;");
        y.hours(1);
        c.same("a line without a condition holds", y.tell(0, 7), 0);
        c.same("it is done", y.tell(0, 3), 0);
    }

    private static void noLineHolds() {
        Run x = ship(Scenes.row(3), 0, 9, 0, 1, "if row=1:east;if row=2:cut;");
        x.hours(1);
        c.ship("no line holds", x, 0, 0, 9, 0, 1, 0, 0, 0, NONE, 0, 2);
    }

    private static void aLineThatCantBeDone() {
        Run x = ship(Scenes.row(3), 0, NONE, 0, 0, "cut;east;");
        x.hours(1);
        c.ship("no later line instead", x, 0, 0, NONE, 0, 0, 0, 0, 0, 0, 0, 2);
        c.same("no channel", x.cell(0, 0, 3), NONE);
    }

    private static void shipsGoInTurn() {
        Run x = Scenes.row(8);
        for (int k = 0; k < 8; k++) {
            ship(x, 0, NONE, 0, k, k == 0 ? "call 7;" : k == 7 ? "call 8;" : "if told=7:wait;");
        }
        x.hours(1);
        for (int k = 1; k < 7; k++) {
            c.same("told by ship 0 in the same hour: " + k, x.tell(k, 7), 0);
            c.same("told by ship 7 later: " + k, x.tell(k, 5), 8);
        }
        c.same("ship 0 by ship 7", x.tell(0, 5), 8);
        c.same("ship 7 by ship 0", x.tell(7, 5), 7);
    }

    // Moves, cuts and calls.

    private static void moveByStrength() {
        int[][] due = {{0, 0, 0, 1}, {0, 2, 0, 0}, {0, 1, 0, 1}, {49, 100, 0, 0}, {50, 100, 0, 1}, {149, 100, 100, 0},
            {150, 100, 100, 1}, {200, 100, 100, 1}};
        for (int[] n : due) {
            for (int fuel : new int[] {NONE, 5000}) {
                Run x = ship(Scenes.row(2), n[0], fuel, 0, 0, "east;");
                x.ice(0, 1, n[1], n[2], true);
                x.hours(1);
                c.same("strength " + n[0] + " into " + n[1] + " and " + n[2], x.tell(0, 8), n[3]);
                c.same("its column", x.tell(0, 3), n[3]);
                c.same("moved", x.tell(0, 6), n[3]);
            }
        }
        for (int ridged = 150; ridged <= 151; ridged++) {
            Run y = ship(pressedTo(ridged), 200, NONE, 0, 0, "east;");
            y.hours(1);
            c.same("strength 200 into " + (50 + ridged), y.tell(0, 8), 151 - ridged);
        }
    }

    private static void moveByFuel() {
        int[][] due = {{0, 1}, {9, 1}, {10, 2}, {19, 2}, {20, 3}, {99, 10}, {100, 11}};
        for (int[] n : due) {
            for (int spare = -1; spare <= 1; spare++) {
                int fuel = n[1] + spare;
                Run x = Scenes.row(2);
                x.ice(0, 1, 1, n[0], true);
                if (x.ship(200, fuel, 0, 0) == NONE) {
                    continue;
                }
                Checks.orders(x, 0, "east;");
                x.hours(1);
                c.same("done with " + fuel + " into " + n[0], x.tell(0, 8), spare >= 0 ? 1 : 0);
                c.same("left of " + fuel, x.tell(0, 1), spare >= 0 ? spare : fuel);
                c.same("column", x.tell(0, 3), spare >= 0 ? 1 : 0);
            }
        }
    }

    private static void moveThroughAChannel() {
        Run x = Scenes.row(3);
        x.ice(0, 1, 100, 100, true);
        ship(x, 0, 5, 0, 1, "if hour=0:cut;");
        x.hours(1);
        c.same("no fuel is left", x.tell(0, 1), 0);
        Run y = Scenes.row(3);
        y.ice(0, 1, 100, 100, true);
        ship(y, 0, 7, 0, 1, "if hour=0:cut;if hour=1:east;west;");
        ship(y, 0, NONE, 0, 0, "east;");
        y.hours(2);
        c.same("out of the channel", y.tell(0, 3), 2);
        c.same("it took 1", y.tell(0, 1), 1);
        c.same("another one into it", y.tell(1, 3), 1);
    }

    private static void moveOfAHeldShip() {
        Run x = ship(Scenes.row(2), 49, NONE, 0, 0, "east;");
        x.ice(0, 0, 100, 0, true);
        x.hours(1);
        c.same("a held ship waits", x.tell(0, 8), 0);
        x.ice(0, 0, 99, 0, true);
        x.hours(1);
        c.same("one that is not goes", x.tell(0, 8), 1);
    }

    private static void moveBeyondEveryEdge() {
        int[][] sizes = {{1, 1}, {3, 4}, {8, 8}};
        for (int[] size : sizes) {
            int[][] last = {{0, size[1] - 1}, {0, size[1] - 1}, {size[0] - 1, 0}, {size[0] - 1, 0}};
            for (int way = 0; way < 4; way++) {
                Run x = ship(Scenes.sea(size[0], size[1]), 0, 9, last[way][0], last[way][1], WAYS[way] + ";");
                x.hours(1);
                String name = WAYS[way] + " beyond the edge";
                c.ship(name, x, 0, 0, 9, last[way][0], last[way][1], 0, 0, 0, 0, 0, 1);
            }
        }
    }

    private static void moveToLandAndShips() {
        for (int way = 0; way < 4; way++) {
            Run x = ship(Scenes.sea(3, 3), 200, 9, 1, 1, WAYS[way] + ";");
            x.land(BESIDE[way][0], BESIDE[way][1], true);
            Run land = x.fork();
            land.hours(1);
            c.ship(WAYS[way] + " to land", land, 0, 200, 9, 1, 1, 0, 0, 0, 0, 0, 1);
            x.land(BESIDE[way][0], BESIDE[way][1], false);
            x.ship(0, NONE, BESIDE[way][0], BESIDE[way][1]);
            x.hours(1);
            c.ship(WAYS[way] + " to a ship", x, 0, 200, 9, 1, 1, 0, 0, 0, 0, 0, 1);
        }
    }

    private static void cutByFuel() {
        int[][] due = {{NONE, 0, NONE}, {1, 0, 1}, {4, 0, 4}, {5, 1, 0}, {6, 1, 1}, {5000, 1, 4995}};
        for (int[] n : due) {
            Run x = ship(Scenes.row(1), 200, n[0], 0, 0, "cut;");
            x.hours(1);
            c.same("cut with " + n[0], x.tell(0, 8), n[1]);
            c.same("left of " + n[0], x.tell(0, 1), n[2]);
            c.same("channel with " + n[0], x.cell(0, 0, 3), n[1] == 1 ? 0 : NONE);
        }
    }

    private static void cutWhereAChannelIs() {
        Run x = ship(Scenes.row(1), 0, 15, 0, 0, "cut;");
        x.hours(8);
        c.ship("one cut while it is open", x, 0, 0, 10, 0, 0, 0, 0, 0, 0, 0, 1);
        x.hours(1);
        c.same("a second one when it is closed", x.cell(0, 0, 3), 8);
        c.ship("a second one", x, 0, 0, 5, 0, 0, 0, 0, 0, 0, 1, 1);
    }

    private static void cutInTheLastHour() {
        Run x = ship(new Run(), 0, 5, 0, 0, "if hour=999:cut;");
        for (int k = 0; k < 10; k++) {
            x.hours(100);
        }
        c.same("a channel of hour 999", x.cell(0, 0, 3), 999);
    }

    private static void callOfMostAndLeast() {
        for (int number : new int[] {0, 9999}) {
            Run x = ship(Scenes.row(3), 0, NONE, 0, 1, "call " + number + ";");
            x.ship(0, NONE, 0, 0);
            x.ship(0, 1, 0, 2);
            for (int k = 0; k < 3; k++) {
                x.call(k, 5);
            }
            x.hours(1);
            c.same("told", x.tell(1, 5), number);
            c.same("told, far away", x.tell(2, 5), number);
            c.same("not told by itself", x.tell(0, 5), 5);
            c.same("done", x.tell(0, 8), 1);
        }
    }

    private static void callOfOneShipAlone() {
        Run x = ship(new Run(), 0, NONE, 0, 0, "call 3;");
        x.hours(1);
        c.ship("alone", x, 0, 0, NONE, 0, 0, 0, 0, 0, 0, 1, 1);
    }

    // The ice.

    private static void growthIsCut() {
        int[][] due = {{0, 3, 0}, {0, 4, 1}, {0, 40, 10}, {60, 9, 60}, {60, 10, 61}, {90, 40, 91}, {91, 40, 91},
            {99, 40, 99}, {100, 40, 100}, {1, 1, 1}, {79, 19, 79}};
        for (int[] n : due) {
            Run x = new Run();
            x.ice(0, 0, n[0], 100, n[0] % 2 == 0);
            x.weather(0, 1, n[1], 0, 0);
            x.hours(1);
            c.cell("cold " + n[1] + " on " + n[0], x, 0, 0, 1, n[2], 100);
            c.counts("cold " + n[1] + " on " + n[0], x, 1, 1, 0, 1, n[2], 100, n[0] + 100, n[2] - n[0], 0);
        }
    }

    private static void meltingIsCut() {
        int[][] due = {{100, 100, 3, 100, 100}, {100, 100, 4, 99, 100}, {100, 100, 7, 99, 100}, {100, 100, 8, 98, 99},
            {10, 20, 40, 9, 19}, {9, 19, 40, 9, 19}, {100, 100, 40, 90, 95}, {0, 0, 40, 0, 0}, {1, 1, 1, 1, 1},
            {57, 0, 7, 57, 0}, {0, 47, 17, 0, 47}};
        for (int[] n : due) {
            Run x = new Run();
            x.ice(0, 0, n[0], n[1], n[0] % 4 == 0);
            x.weather(0, 1, -n[2], 0, 0);
            x.hours(1);
            String name = "warmth " + n[2] + " on " + n[0] + " and " + n[1];
            c.cell(name, x, 0, 0, 1, n[3], n[4]);
            c.counts(name, x, 1, 1, 0, 1, n[3], n[4], n[0] + n[1], 0, n[0] + n[1] - n[3] - n[4]);
        }
    }

    /** A single degree melts nothing but ridges of 800 grains. */
    private static void meltingOfGreatRidges() {
        int[][] due = {{120, -40, 114}, {799, -1, 799}, {800, -1, 799}, {800, 0, 800}, {800, 1, 800}, {800, 40, 800}};
        for (int[] n : due) {
            Run x = pressedTo(n[0]);
            x.weather(x.count(3), 1, n[1], 0, 0);
            x.hours(1);
            c.same("cold " + n[1] + " on ridges of " + n[0], x.cell(0, 1, 2), n[2]);
            c.same("melted of the ridges", x.count(8) - (n[1] == -40 ? 10 : 0), n[0] - n[2]);
        }
        Run y = pressedTo(800);
        y.hours(100);
        c.same("no weather", y.cell(0, 1, 2), 800);
    }

    private static void iceOfTheFirstAndTheLastCell() {
        int[][] corners = {{0, 0}, {0, 7}, {7, 0}, {7, 7}};
        for (int cold : new int[] {40, -40}) {
            Run x = Scenes.sea(8, 8);
            for (int[] at : corners) {
                x.ice(at[0], at[1], 50, 40, false);
            }
            x.weather(0, 2, cold, 0, 0);
            x.hours(1);
            for (int[] at : corners) {
                c.cell("cold " + cold + " in the corner", x, at[0], at[1], 1, cold > 0 ? 55 : 45, cold > 0 ? 40 : 38);
            }
            c.counts("once", x, 8, 8, 0, 1, cold > 0 ? 820 : 180, cold > 0 ? 160 : 152, 360, cold > 0 ? 620 : 0,
                    cold > 0 ? 0 : 28);
            x.hours(1);
            c.same("twice, in all", x.count(cold > 0 ? 7 : 8), cold > 0 ? 620 + 16 + 60 * 9 : 28 + 16 + 4);
        }
        for (int way = 0; way < 4; way++) {
            int[] last = corners[new int[] {0, 1, 3, 2}[way]];
            Run x = Scenes.sea(8, 8);
            x.ice(last[0], last[1], 90, 0, true);
            int row = last[0] + new int[] {1, 0, -1, 0}[way];
            int column = last[1] + new int[] {0, -1, 0, 1}[way];
            x.ice(row, column, 100, 0, false);
            x.weather(0, 1, 0, way, 50);
            x.hours(1);
            c.cell("pressed into the corner by way " + way, x, last[0], last[1], 1, 100, 15);
        }
    }

    private static void noColdNoChange() {
        Run x = Scenes.row(3);
        x.ice(0, 0, 50, 100, false);
        x.ice(0, 1, 100, 50, true);
        x.weather(0, 100, 0, 1, 0);
        x.hours(100);
        c.cell("cold 0", x, 0, 0, 1, 50, 100);
        c.cell("cold 0", x, 0, 1, 1, 100, 50);
        c.cell("cold 0", x, 0, 2, 1, 0, 0);
        c.counts("cold 0", x, 1, 3, 0, 100, 150, 150, 300, 0, 0);
    }

    private static void driftIsCut() {
        int[][] due = {{100, 1, 0}, {100, 2, 1}, {99, 2, 0}, {3, 50, 0}, {4, 50, 1}, {100, 50, 25}, {99, 50, 24},
            {0, 50, 0}, {21, 19, 1}};
        for (int[] n : due) {
            Run x = Scenes.row(2);
            x.ice(0, 0, n[0], 9, false);
            x.weather(0, 1, 0, 1, n[1]);
            x.hours(1);
            c.cell("force " + n[1] + " on " + n[0], x, 0, 0, 1, n[0] - n[2], 9);
            c.cell("force " + n[1] + " on " + n[0], x, 0, 1, 1, n[2], 0);
        }
    }

    private static void driftOfNoForce() {
        Run x = Scenes.row(2);
        x.ice(0, 0, 100, 0, false);
        x.weather(0, 9, 0, 1, 0);
        x.hours(9);
        c.cell("no force", x, 0, 0, 1, 100, 0);
        c.cell("no force", x, 0, 1, 1, 0, 0);
    }

    private static void driftEndsAtEveryEdge() {
        int[][] sizes = {{1, 1}, {3, 4}, {8, 8}};
        for (int[] size : sizes) {
            int[][] last = {{0, size[1] - 1}, {0, size[1] - 1}, {size[0] - 1, 0}, {size[0] - 1, 0}};
            for (int way = 0; way < 4; way++) {
                Run x = Scenes.sea(size[0], size[1]);
                x.ice(last[way][0], last[way][1], 100, 100, false);
                x.weather(0, 9, 0, way, 50);
                x.hours(9);
                c.cell("way " + way + " at the edge", x, last[way][0], last[way][1], 1, 100, 100);
                c.counts("way " + way + " at the edge", x, size[0], size[1], 0, 9, 100, 100, 200, 0, 0);
            }
        }
    }

    private static void driftStopsAtLandAndFastIce() {
        Run x = Scenes.row(5);
        x.ice(0, 0, 100, 0, false);
        x.land(0, 1, true);
        x.ice(0, 2, 100, 0, true);
        x.ice(0, 4, 40, 0, true);
        x.weather(0, 1, 0, 1, 50);
        x.hours(1);
        c.cell("before land", x, 0, 0, 1, 100, 0);
        c.cell("land", x, 0, 1, 0, 0, 0);
        c.cell("fast", x, 0, 2, 1, 100, 0);
        c.cell("behind fast ice", x, 0, 3, 1, 0, 0);
        x.ice(0, 3, 100, 0, false);
        x.weather(1, 1, 0, 1, 50);
        x.hours(1);
        c.cell("fast ice takes", x, 0, 4, 1, 65, 0);
        x.ice(0, 3, 100, 0, false);
        x.weather(2, 1, 0, 3, 50);
        x.hours(1);
        c.cell("full fast ice takes all the same", x, 0, 2, 1, 100, 25);
    }

    private static void driftIsAllAtOnce() {
        for (int way : new int[] {1, 3}) {
            Run x = Scenes.row(4);
            x.ice(0, way == 1 ? 0 : 3, 100, 0, false);
            x.weather(0, 2, 0, way, 50);
            x.hours(1);
            int[] once = {75, 25, 0, 0};
            for (int k = 0; k < 4; k++) {
                c.same("no two cells in an hour", x.cell(0, way == 1 ? k : 3 - k, 1), once[k]);
            }
            x.hours(1);
            int[] twice = {57, 37, 6, 0};
            for (int k = 0; k < 4; k++) {
                c.same("in two hours", x.cell(0, way == 1 ? k : 3 - k, 1), twice[k]);
            }
        }
    }

    private static void pressedAboveAHundred() {
        int[][] due = {{74, 99, 0}, {75, 100, 0}, {76, 100, 1}, {77, 100, 2}, {100, 100, 25}};
        for (int[] n : due) {
            Run x = Scenes.row(2);
            x.ice(0, 0, 100, 0, false);
            x.ice(0, 1, n[0], 0, false);
            x.weather(0, 1, 0, 1, 50);
            x.hours(1);
            c.cell("25 to " + n[0], x, 0, 1, 1, n[1], n[2]);
        }
        Run y = Scenes.row(3);
        for (int k = 0; k < 3; k++) {
            y.ice(0, k, 100, 0, false);
        }
        y.weather(0, 1, 0, 1, 50);
        y.hours(1);
        c.cell("full ones send too", y, 0, 0, 1, 75, 0);
        c.cell("as much comes as goes", y, 0, 1, 1, 100, 0);
        c.cell("the last one is pressed", y, 0, 2, 1, 100, 25);
    }

    // Channels.

    private static void channelsCloseByTheHour() {
        for (int cold = -40; cold <= 40; cold++) {
            int hours = 7 - Math.max(cold, 0) / 10;
            Run x = ship(new Run(), 0, 5, 0, 0, "if hour=3:cut;");
            x.weather(0, 1000, cold, 0, 0);
            x.hours(3 + hours);
            c.same("open at cold " + cold, x.cell(0, 0, 3), 3);
            x.hours(1);
            c.same("closed at cold " + cold, x.cell(0, 0, 3), NONE);
        }
    }

    private static void channelsCloseByALaterHour() {
        Run x = ship(new Run(), 0, 5, 0, 0, "if hour=0:cut;");
        x.weather(5, 1, 10, 0, 0);
        x.weather(6, 1, 9, 0, 0);
        x.hours(5);
        c.same("open, as cold as it was", x.cell(0, 0, 3), 0);
        x.hours(1);
        c.same("open: an hour too early for cold 10", x.cell(0, 0, 3), 0);
        x.hours(1);
        c.same("open: an hour too early for cold 9", x.cell(0, 0, 3), 0);
        x.hours(1);
        c.same("closed by hour 7", x.cell(0, 0, 3), NONE);
        for (int hour = 2; hour <= 6; hour++) {
            Run y = ship(new Run(), 0, 5, 0, 0, "if hour=0:cut;");
            y.weather(hour, 1, 40, 0, 0);
            y.hours(hour);
            c.same("open before a cold hour", y.cell(0, 0, 3), 0);
            y.hours(1);
            c.same("cold 40 at hour " + hour, y.cell(0, 0, 3), hour < 3 ? 0 : NONE);
        }
    }

    private static void channelsCloseByASingleGrain() {
        for (int force = 1; force <= 2; force++) {
            Run x = ship(Scenes.row(3), 0, 5, 0, 1, "cut;");
            x.ice(0, 0, 100, 0, false);
            x.weather(0, 1, 0, 1, force);
            x.hours(1);
            c.same("sent " + (force - 1), x.cell(0, 1, 1), force - 1);
            c.same("a channel where so much came", x.cell(0, 1, 3), force == 1 ? 0 : NONE);
        }
        Run y = ship(Scenes.row(3), 0, 5, 0, 1, "cut;");
        y.ice(0, 1, 100, 0, false);
        y.weather(0, 1, 0, 1, 50);
        y.hours(1);
        c.same("ice that goes closes none", y.cell(0, 1, 3), 0);
        Run z = ship(Scenes.row(3), 0, 5, 0, 1, "cut;");
        z.ice(0, 0, 100, 0, true);
        z.weather(0, 1, 0, 1, 50);
        z.hours(1);
        c.same("fast ice sends none", z.cell(0, 1, 3), 0);
    }
}
