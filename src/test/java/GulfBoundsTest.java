/** The boundary cases of promises 1 to 5, 14 and 16, and of the gulf's and the hours' bounds in the Terms. */
public final class GulfBoundsTest {
    private static final int NONE = IcePilots.NONE;
    private static final int[] OPEN_WATER = {1, 0, 0, NONE, 0, 0, NONE};
    private static final int[] LAND = {0, 0, 0, NONE, 0, 0, NONE};
    private static final Checks c = new Checks();

    public static void main(String[] args) {
        newObjectHasOneCell();
        newObjectHasNoShips();
        newObjectHasNoPassages();
        newObjectIsAtHourZero();
        newObjectHasNoImages();
        newObjectHasAnEmptyTape();
        newObjectsWeatherIsAllZero();
        objectsAreApart();
        gulfOfOneToEight();
        gulfOfOthers();
        gulfIsAllSeaWithoutIce();
        gulfIsWithoutShips();
        gulfIsAtHourZero();
        gulfsWeatherIsAllZero();
        gulfLeavesPassagesAndImages();
        smallerGulfLosesTheRest();
        landOfEveryCorner();
        landWhereThereIsNoCell();
        landThatWasSo();
        landWhereAShipIs();
        landsIceIsNoMore();
        landTakesWhatGrew();
        iceOfMostAndLeast();
        iceOfOtherNumbers();
        iceWhereThereIsNoSeaCell();
        iceClosesAChannel();
        iceTakesAwayWhatWasThere();
        weatherOfMostAndLeast();
        weatherOfOtherNumbers();
        weatherOfNoHour();
        weatherOfHoursThatAreOver();
        weatherOfItsHoursAlone();
        weatherOfTheLastHour();
        weatherOfEveryWay();
        cellWhereThereIsNone();
        cellOfAnotherWhat();
        cellOfLand();
        cellWithAllOfIt();
        countOfAnotherWhat();
        countOfMost();
        c.finish("GulfBoundsTest");
    }

    // Promise 1: a new object.

    private static void newObjectHasOneCell() {
        Run x = new Run();
        c.counts("new", x, 1, 1, 0, 0, 0, 0, 0, 0, 0, 0);
        c.cell("new", x, 0, 0, OPEN_WATER);
        c.cell("new, no cell south", x, 1, 0, NONE, NONE, NONE, NONE, NONE, NONE, NONE);
        c.cell("new, no cell east", x, 0, 1, NONE, NONE, NONE, NONE, NONE, NONE, NONE);
    }

    private static void newObjectHasNoShips() {
        Run x = new Run();
        c.ship("new", x, 0, NONE, NONE, NONE, NONE, NONE, NONE, NONE, NONE, NONE, NONE);
        c.refused(x, "new: orders(0)", -2, r -> r.orders(0));
        c.refused(x, "new: call(0, 0)", r -> r.call(0, 0));
        for (int k = 0; k <= 3; k++) {
            int what = k;
            c.refused(x, "new: " + Checks.say("ahead", 1, 0, what), -2, r -> r.ahead(1, 0, what));
        }
        c.same("new: ahead(1, 0, 4)", x.ahead(1, 0, 4), 0);
        c.same("new: ahead(1, 0, 5)", x.ahead(1, 0, 5), 0);
        c.same("its first ship", x.ship(0, NONE, 0, 0), 0);
    }

    private static void newObjectHasNoPassages() {
        Run x = new Run();
        c.same("new: turn(0)", x.turn(0), NONE);
        c.same("new: turns(1)", x.turns(1), 0);
        c.same("new: turns(2)", x.turns(2), 0);
        c.same("new: turn(0) behind turns", x.turn(0), NONE);
        c.same("new: cost(0, 1)", x.cost(0, 1), 0);
        x.clear();
        c.same("new: passages behind clear", x.count(9), 0);
        c.same("its first passage", x.passage(0, 1, 1), 0);
    }

    private static void newObjectIsAtHourZero() {
        Run x = new Run();
        c.taken(x, "new: weather of hour 0", r -> r.weather(0, 1, 0, 0, 0));
        c.taken(x, "new: hours(1)", 1, r -> r.hours(1));
        c.taken(x, "new: hours(100)", 100, r -> r.hours(100));
    }

    private static void newObjectHasNoImages() {
        Run x = new Run();
        for (int k = 0; k <= 2; k++) {
            int image = k;
            c.refused(x, "new: " + Checks.say("again", image), r -> r.again(image));
        }
    }

    private static void newObjectHasAnEmptyTape() {
        Run x = new Run();
        c.refused(x, "new: end(1)", NONE, r -> r.end(1));
        c.same("new: end(0)", x.end(0), 0);
        c.same("new: fault(0)", x.fault(0), 0);
        c.same("new: fault(1)", x.fault(1), NONE);
        c.same("new: feed", x.feed(0, 0, 0, 0, 0), 20);
    }

    private static void newObjectsWeatherIsAllZero() {
        Run x = new Run();
        x.ice(0, 0, 50, 50, false);
        for (int k = 1; k <= 10; k++) {
            x.hours(100);
            c.same("new: level at " + 100 * k, x.cell(0, 0, 1), 50);
            c.same("new: ridged at " + 100 * k, x.cell(0, 0, 2), 50);
        }
        c.counts("new: to the end", x, 1, 1, 0, 1000, 50, 50, 100, 0, 0, 0);
    }

    private static void objectsAreApart() {
        Run x = new Run();
        Run busy = Scenes.busy();
        busy.hours(9);
        c.told("another object's calls", x, new Run());
    }

    // Promise 2: gulf.

    private static void gulfOfOneToEight() {
        for (int rows : new int[] {1, 2, 7, 8}) {
            for (int columns : new int[] {1, 2, 7, 8}) {
                String call = Checks.say("gulf", rows, columns);
                Run x = c.taken(Scenes.busy(), call, r -> r.gulf(rows, columns));
                c.counts(call, x, rows, columns);
                c.same(call + " its first cell", x.cell(0, 0, 0), 1);
                c.same(call + " its last cell", x.cell(rows - 1, columns - 1, 0), 1);
                c.same(call + " below", x.cell(rows, columns - 1, 0), NONE);
                c.same(call + " beside", x.cell(rows - 1, columns, 0), NONE);
            }
        }
    }

    private static void gulfOfOthers() {
        Run x = Scenes.busy();
        for (int other : Checks.outside(1, 8)) {
            c.refused(x, Checks.say("gulf", other, 3), r -> r.gulf(other, 3));
            c.refused(x, Checks.say("gulf", 3, other), r -> r.gulf(3, other));
            c.refused(x, Checks.say("gulf", other, other), r -> r.gulf(other, other));
        }
        c.refused(x, "gulf(0, 8)", r -> r.gulf(0, 8));
        c.refused(x, "gulf(8, 9)", r -> r.gulf(8, 9));
        c.refused(new Run(), "gulf(0, 0) of a new object", r -> r.gulf(0, 0));
    }

    private static void gulfIsAllSeaWithoutIce() {
        Run x = Scenes.sea(8, 8);
        x.land(0, 0, true);
        x.land(7, 7, true);
        x.ice(0, 7, 100, 100, true);
        x.ice(7, 0, 1, 1, true);
        x.ship(0, 5, 3, 3);
        Checks.orders(x, 0, "if hour=1:cut;");
        x.weather(0, 1, 40, 0, 0);
        x.weather(1, 1, -40, 0, 0);
        x.hours(2);
        c.same("a channel", x.cell(3, 3, 3), 1);
        c.yes("ice that grew", x.count(7) > 0);
        c.yes("ice that melted", x.count(8) > 0);
        x.gulf(8, 8);
        for (int cell = 0; cell < 64; cell++) {
            c.cell("gulf anew", x, cell / 8, cell % 8, OPEN_WATER);
        }
        c.counts("gulf anew", x, 8, 8, 0, 0, 0, 0, 0, 0, 0);
    }

    private static void gulfIsWithoutShips() {
        Run x = Scenes.sea(8, 8);
        for (int k = 0; k < 8; k++) {
            x.ship(200, 5000, k, k);
            x.call(k, 9999);
        }
        Checks.orders(x, 0, "east;");
        x.hours(1);
        x.gulf(8, 8);
        c.same("no ships", x.count(2), 0);
        c.same("no ship 0", x.tell(0, 0), NONE);
        c.same("none in its cell", x.cell(1, 1, 6), NONE);
        for (int k = 0; k < 8; k++) {
            c.same("a new ship " + k, x.ship(1, NONE, k, k), k);
            c.ship("a new ship", x, k, 1, NONE, k, k, 0, 0, 0, NONE, 0, 0);
        }
    }

    private static void gulfIsAtHourZero() {
        Run x = new Run();
        for (int k = 0; k < 10; k++) {
            x.hours(100);
        }
        c.same("the end", x.count(3), 1000);
        x.gulf(1, 1);
        c.same("hour 0", x.count(3), 0);
        c.taken(x, "weather of all hours again", r -> r.weather(0, 1000, 0, 0, 0));
        c.taken(x, "hours(100) again", 100, r -> r.hours(100));
    }

    private static void gulfsWeatherIsAllZero() {
        Run x = Scenes.row(2);
        x.weather(0, 1000, 40, 1, 50);
        x.gulf(1, 2);
        x.ice(0, 0, 60, 60, false);
        for (int k = 0; k < 10; k++) {
            x.hours(100);
        }
        c.cell("no weather to the end", x, 0, 0, 1, 60, 60);
        c.cell("no weather to the end", x, 0, 1, OPEN_WATER);
        c.same("nothing grew", x.count(7), 0);
    }

    private static void gulfLeavesPassagesAndImages() {
        Run x = Scenes.busy();
        Run y = c.taken(x, "gulf(1, 1)", r -> r.gulf(1, 1));
        c.same("passages stay", y.count(9), 3);
        c.same("their cost stays", y.cost(0210, 1), x.fork().cost(0210, 1));
        for (int k = 0; k < 3; k++) {
            c.same("the order at hand stays: " + k, y.turn(k), x.fork().turn(k));
        }
        c.no("no image 2", y.fork().again(2));
        for (int k = 0; k < 2; k++) {
            Run before = x.fork();
            c.yes("image " + k, before.again(k));
            Run behind = y.fork();
            c.yes("image stays: " + k, behind.again(k));
            c.told("gulf, for image " + k + ",", behind, before);
        }
    }

    private static void smallerGulfLosesTheRest() {
        Run x = Scenes.sea(8, 8);
        x.ice(7, 7, 80, 9, true);
        x.gulf(2, 2);
        c.counts("smaller", x, 2, 2, 0, 0, 0, 0, 0);
        c.same("no cell any more", x.cell(7, 7, 1), NONE);
        x.weather(0, 1, 40, 0, 0);
        x.hours(1);
        c.same("four cells grow", x.count(7), 40);
        x.gulf(8, 8);
        c.cell("larger again", x, 7, 7, OPEN_WATER);
    }

    // Promise 3: land.

    private static void landOfEveryCorner() {
        Run x = Scenes.sea(3, 4);
        int[][] corners = {{0, 0}, {0, 3}, {2, 0}, {2, 3}};
        for (int[] at : corners) {
            Run y = c.taken(x, Checks.say("land", at), r -> r.land(at[0], at[1], true));
            c.cell("land", y, at[0], at[1], LAND);
            c.yes("sea again", y.land(at[0], at[1], false));
            c.told("land and sea again", y, x);
        }
        c.taken(new Run(), "land of the one cell", r -> r.land(0, 0, true));
    }

    private static void landWhereThereIsNoCell() {
        Run x = Scenes.busy();
        for (int row : Checks.outside(0, 2)) {
            c.refused(x, Checks.say("land", row, 1) + " to land", r -> r.land(row, 1, true));
            c.refused(x, Checks.say("land", row, 3) + " to sea", r -> r.land(row, 3, false));
        }
        for (int column : Checks.outside(0, 3)) {
            c.refused(x, Checks.say("land", 1, column) + " to land", r -> r.land(1, column, true));
            c.refused(x, Checks.say("land", 2, column) + " to sea", r -> r.land(2, column, false));
        }
    }

    private static void landThatWasSo() {
        Run x = Scenes.busy();
        c.refused(x, "land that was land", r -> r.land(2, 3, true));
        c.refused(x, "sea that was sea", r -> r.land(1, 1, false));
        c.refused(x, "sea that was sea, with ice", r -> r.land(1, 2, false));
    }

    private static void landWhereAShipIs() {
        Run x = Scenes.busy();
        c.refused(x, "land where ship 0 is", r -> r.land(0, 0, true));
        c.refused(x, "land where ship 1 is", r -> r.land(2, 0, true));
        c.refused(x, "sea where a ship is", r -> r.land(2, 0, false));
        Run y = Scenes.row(2);
        y.ship(0, NONE, 0, 0);
        Checks.orders(y, 0, "east;");
        c.refused(y, "land before it goes", r -> r.land(0, 0, true));
        y.hours(1);
        c.taken(y, "land behind it", r -> r.land(0, 0, true));
        c.refused(y, "land where it went", r -> r.land(0, 1, true));
    }

    private static void landsIceIsNoMore() {
        Run x = Scenes.row(2);
        x.ship(0, 6, 0, 0);
        Checks.orders(x, 0, "if hour=0:cut;east;");
        x.ice(0, 0, 100, 100, true);
        x.hours(2);
        c.cell("full, with a channel", x, 0, 0, 1, 100, 100, 0, 1, 0, NONE);
        c.yes("land", x.land(0, 0, true));
        c.cell("land", x, 0, 0, LAND);
        c.counts("land", x, 1, 2, 1, 2, 0, 0, 0, 0, 0);
        x.weather(2, 5, 40, 3, 50);
        x.hours(5);
        c.cell("land stays without ice", x, 0, 0, LAND);
        c.yes("sea", x.land(0, 0, false));
        c.cell("sea without ice, a channel or fast ice", x, 0, 0, OPEN_WATER);
    }

    /** The count of what ice() brought goes below 0 where land() takes what had grown. */
    private static void landTakesWhatGrew() {
        Run x = Scenes.row(2);
        x.weather(0, 1, 40, 0, 0);
        x.hours(1);
        x.land(0, 0, true);
        c.counts("land where ice grew", x, 1, 2, 0, 1, 10, 0, -10, 20, 0);
        x.land(0, 0, false);
        c.counts("sea again", x, 1, 2, 0, 1, 10, 0, -10, 20, 0);
    }

    // Promise 4: ice.

    private static void iceOfMostAndLeast() {
        Run x = Scenes.busy();
        for (int level : new int[] {0, 1, 99, 100}) {
            for (int ridged : new int[] {0, 1, 99, 100}) {
                String call = Checks.say("ice", 1, 1, level, ridged);
                Run fast = c.taken(x, call + " fast", r -> r.ice(1, 1, level, ridged, true));
                c.cell(call, fast, 1, 1, 1, level, ridged, NONE, 1, level / 2 + ridged, NONE);
                Run loose = c.taken(fast, call, r -> r.ice(1, 1, level, ridged, false));
                c.cell(call, loose, 1, 1, 1, level, ridged, NONE, 0, level / 2 + ridged, NONE);
                c.same(call + " twice", loose.count(6), fast.count(6));
            }
        }
    }

    private static void iceOfOtherNumbers() {
        Run x = Scenes.busy();
        for (int other : Checks.outside(0, 100)) {
            c.refused(x, Checks.say("ice", 1, 1, other, 0), r -> r.ice(1, 1, other, 0, true));
            c.refused(x, Checks.say("ice", 1, 1, 100, other), r -> r.ice(1, 1, 100, other, false));
            c.refused(x, Checks.say("ice", 1, 1, other, other), r -> r.ice(1, 1, other, other, false));
        }
    }

    private static void iceWhereThereIsNoSeaCell() {
        Run x = Scenes.busy();
        for (int row : Checks.outside(0, 2)) {
            c.refused(x, Checks.say("ice", row, 1), r -> r.ice(row, 1, 9, 9, true));
        }
        for (int column : Checks.outside(0, 3)) {
            c.refused(x, Checks.say("ice", 1, column), r -> r.ice(1, column, 9, 9, true));
        }
        c.refused(x, "ice of land", r -> r.ice(2, 3, 9, 9, true));
        c.refused(x, "no ice of land", r -> r.ice(2, 3, 0, 0, false));
        int[][] corners = {{0, 0}, {0, 3}, {2, 0}, {2, 2}};
        for (int[] at : corners) {
            Run y = c.taken(x, Checks.say("ice", at), r -> r.ice(at[0], at[1], 9, 8, true));
            c.cell("ice at the edge, under ships too", y, at[0], at[1], 1, 9, 8, NONE, 1, 12);
        }
    }

    private static void iceClosesAChannel() {
        Run x = Scenes.busy();
        c.same("a channel, of hour 2", x.cell(0, 0, 3), 2);
        Run y = c.taken(x, "ice(0, 0, 0, 0)", r -> r.ice(0, 0, 0, 0, false));
        c.cell("no channel", y, 0, 0, OPEN_WATER[0], 0, 0, NONE, 0, 0, 0);
    }

    private static void iceTakesAwayWhatWasThere() {
        Run x = Scenes.row(2);
        x.weather(0, 8, 0, 1, 50);
        for (int k = 0; k < 8; k++) {
            x.ice(0, 0, 100, 0, false);
            x.hours(1);
        }
        c.cell("pressed above 100", x, 0, 1, 1, 100, 100);
        x.ice(0, 0, 100, 0, false);
        x.weather(8, 1, 0, 1, 2);
        x.hours(1);
        c.cell("ridged has no most", x, 0, 1, 1, 100, 101, NONE, 0, 151);
        c.same("laid", x.count(6), 300);
        x.ice(0, 1, 100, 100, false);
        c.same("laid less what was there", x.count(6), 299);
        x.ice(0, 1, 0, 0, false);
        x.ice(0, 0, 0, 0, false);
        c.same("all taken away", x.count(6), 0);
    }

    // Promise 5: weather, and the hours of the Terms.

    private static void weatherOfMostAndLeast() {
        Run x = Scenes.busy();
        int[][] good = {{3, 1, 0, 0, 0}, {3, 997, 0, 0, 0}, {999, 1, 0, 0, 0}, {500, 500, 0, 0, 0}, {4, 1, -40, 0, 0},
            {4, 1, 40, 0, 0}, {4, 1, 0, 3, 0}, {4, 1, 0, 0, 50}, {3, 997, -40, 3, 50}, {3, 997, 40, 0, 50}};
        for (int[] n : good) {
            c.taken(x, Checks.say("weather", n), r -> r.weather(n[0], n[1], n[2], n[3], n[4]));
        }
        c.taken(new Run(), "weather(0, 1000)", r -> r.weather(0, 1000, 40, 3, 50));
        c.taken(new Run(), "weather(0, 1)", r -> r.weather(0, 1, -40, 0, 0));
    }

    private static void weatherOfOtherNumbers() {
        Run x = Scenes.busy();
        for (int cold : Checks.outside(-40, 40)) {
            c.refused(x, Checks.say("weather", 4, 9, cold, 1, 50), r -> r.weather(4, 9, cold, 1, 50));
        }
        for (int way : Checks.outside(0, 3)) {
            c.refused(x, Checks.say("weather", 4, 9, 40, way, 50), r -> r.weather(4, 9, 40, way, 50));
            c.refused(x, Checks.say("weather", 4, 9, 40, way, 0), r -> r.weather(4, 9, 40, way, 0));
        }
        for (int force : Checks.outside(0, 50)) {
            c.refused(x, Checks.say("weather", 4, 9, 40, 1, force), r -> r.weather(4, 9, 40, 1, force));
        }
        for (int n : Checks.outside(1, 1000)) {
            c.refused(x, Checks.say("weather", 4, n, 40, 1, 50), r -> r.weather(4, n, 40, 1, 50));
            c.refused(new Run(), "new: " + Checks.say("weather", 0, n, 40, 1, 50), r -> r.weather(0, n, 40, 1, 50));
        }
    }

    private static void weatherOfNoHour() {
        Run x = Scenes.busy();
        for (int from : Checks.outside(0, 999)) {
            c.refused(x, Checks.say("weather", from, 1, 40, 1, 50), r -> r.weather(from, 1, 40, 1, 50));
            c.refused(x, Checks.say("weather", from, from, 40, 1, 50), r -> r.weather(from, from, 40, 1, 50));
        }
        int[][] beyond = {{999, 2}, {998, 3}, {3, 998}, {500, 501}, {999, 1000}, {999, Integer.MAX_VALUE},
            {4, Integer.MAX_VALUE - 3}};
        for (int[] n : beyond) {
            c.refused(x, Checks.say("weather", n), r -> r.weather(n[0], n[1], 40, 1, 50));
        }
        c.refused(new Run(), "new: weather(1, 1000)", r -> r.weather(1, 1000, 40, 1, 50));
        c.refused(new Run(), "new: weather(-1, 2)", r -> r.weather(-1, 2, 40, 1, 50));
    }

    private static void weatherOfHoursThatAreOver() {
        Run x = Scenes.busy();
        c.same("hour 3", x.count(3), 3);
        c.refused(x, "weather(2, 1)", r -> r.weather(2, 1, 40, 1, 50));
        c.refused(x, "weather(2, 9)", r -> r.weather(2, 9, 40, 1, 50));
        c.refused(x, "weather(0, 1000)", r -> r.weather(0, 1000, 40, 1, 50));
        c.taken(x, "weather(3, 1)", r -> r.weather(3, 1, 40, 1, 50));
        Run y = new Run();
        for (int k = 0; k < 10; k++) {
            y.hours(k == 9 ? 99 : 100);
        }
        c.refused(y, "weather(998, 1) at 999", r -> r.weather(998, 1, 40, 1, 50));
        c.refused(y, "weather(998, 2) at 999", r -> r.weather(998, 2, 40, 1, 50));
        c.taken(y, "weather(999, 1) at 999", r -> r.weather(999, 1, 40, 1, 50));
        y.hours(1);
        c.refused(y, "weather(999, 1) at 1000", r -> r.weather(999, 1, 40, 1, 50));
        c.refused(y, "weather(1000, 1) at 1000", r -> r.weather(1000, 1, 40, 1, 50));
    }

    private static void weatherOfItsHoursAlone() {
        Run x = new Run();
        x.weather(0, 1000, 10, 0, 0);
        x.weather(2, 3, 40, 0, 0);
        x.weather(3, 1, -40, 0, 0);
        int[] levels = {2, 4, 13, 12, 20, 22};
        for (int hour = 0; hour < levels.length; hour++) {
            x.hours(1);
            c.same("level behind hour " + hour, x.cell(0, 0, 1), levels[hour]);
        }
    }

    private static void weatherOfTheLastHour() {
        for (int[] n : new int[][] {{999, 1}, {0, 1000}}) {
            Run x = new Run();
            x.weather(n[0], n[1], 40, 0, 0);
            for (int k = 0; k < 10; k++) {
                x.hours(k == 9 ? 99 : 100);
            }
            x.ice(0, 0, 0, 0, false);
            c.same("the hour before the last is over", x.count(3), 999);
            c.same("ahead to the end", x.ahead(1, 0, 4), 10);
            c.same("the last hour", x.hours(1), 1000);
            c.same("grown in it", x.cell(0, 0, 1), 10);
        }
    }

    private static void weatherOfEveryWay() {
        int[][] to = {{0, 1}, {1, 2}, {2, 1}, {1, 0}};
        for (int way = 0; way <= 3; way++) {
            Run x = Scenes.sea(3, 3);
            x.ice(1, 1, 100, 0, false);
            x.weather(0, 1, 0, way, 50);
            x.hours(1);
            c.same("sent by way " + way, x.cell(to[way][0], to[way][1], 1), 25);
            c.same("left by way " + way, x.cell(1, 1, 1), 75);
        }
    }

    // Promise 14: cell.

    private static void cellWhereThereIsNone() {
        Run x = Scenes.busy();
        for (int k = 0; k <= 6; k++) {
            int what = k;
            for (int row : Checks.outside(0, 2)) {
                c.refused(x, Checks.say("cell", row, 1, what), NONE, r -> r.cell(row, 1, what));
            }
            for (int column : Checks.outside(0, 3)) {
                c.refused(x, Checks.say("cell", 1, column, what), NONE, r -> r.cell(1, column, what));
            }
        }
    }

    private static void cellOfAnotherWhat() {
        Run x = Scenes.busy();
        for (int what : Checks.outside(0, 6)) {
            c.refused(x, Checks.say("cell", 0, 0, what), NONE, r -> r.cell(0, 0, what));
            c.refused(x, Checks.say("cell", 2, 3, what) + " of land", NONE, r -> r.cell(2, 3, what));
        }
    }

    private static void cellOfLand() {
        Run x = Scenes.busy();
        c.cell("land", x, 2, 3, LAND);
        x.hours(100);
        c.cell("land behind 100 hours", x, 2, 3, LAND);
    }

    private static void cellWithAllOfIt() {
        Run x = Scenes.row(1);
        x.ice(0, 0, 99, 7, true);
        x.ship(0, 10, 0, 0);
        c.cell("burden is cut", x, 0, 0, 1, 99, 7, NONE, 1, 56, 0);
        Checks.orders(x, 0, "if hour=1:cut;");
        x.hours(2);
        c.cell("with a channel", x, 0, 0, 1, 99, 7, 1, 1, 0, 0);
    }

    // Promise 16: count.

    private static void countOfAnotherWhat() {
        for (int what : Checks.outside(0, 9)) {
            c.refused(Scenes.busy(), Checks.say("count", what), NONE, r -> r.count(what));
            c.refused(new Run(), "new: " + Checks.say("count", what), NONE, r -> r.count(what));
        }
    }

    private static void countOfMost() {
        Run x = Scenes.sea(8, 8);
        for (int cell = 0; cell < 64; cell++) {
            x.ice(cell / 8, cell % 8, 100, 100, true);
        }
        for (int k = 0; k < 8; k++) {
            x.ship(0, NONE, 7, k);
        }
        for (int k = 0; k < 6; k++) {
            x.passage(0, 1, 1);
        }
        for (int k = 0; k < 10; k++) {
            x.hours(100);
        }
        c.counts("full", x, 8, 8, 8, 1000, 6400, 6400, 12800, 0, 0, 6);
    }
}
