/** Promises 1 to 5, 14 and 16: the cells, their ice and the weather. */
public final class GulfTest {
    private static final int NONE = IcePilots.NONE;
    private static final Checks c = new Checks();

    public static void main(String[] args) {
        newObject();
        gulfs();
        gulfsBeginAnew();
        lands();
        ices();
        weathers();
        weatherOfPastHours();
        cells();
        counts();
        c.finish("GulfTest");
    }

    private static void newObject() {
        Run x = new Run();
        c.same("NONE", IcePilots.NONE, -1);
        int[] counts = {1, 1, 0, 0, 0, 0, 0, 0, 0, 0};
        for (int what = 0; what < counts.length; what++) {
            c.same("new: count(" + what + ")", x.count(what), counts[what]);
        }
        int[] cell = {1, 0, 0, NONE, 0, 0, NONE};
        for (int what = 0; what < cell.length; what++) {
            c.same("new: cell(0, 0, " + what + ")", x.cell(0, 0, what), cell[what]);
        }
        c.same("new: tell(0, 0)", x.tell(0, 0), NONE);
        c.same("new: turn(0)", x.turn(0), NONE);
        c.same("new: fault(0)", x.fault(0), 0);
        c.same("new: fault(1)", x.fault(1), NONE);
        c.same("new: end(0)", x.end(0), 0);
        c.same("new: end(1)", x.end(1), NONE);
        for (int k = -1; k <= 3; k++) {
            c.no("new: again(" + k + ")", x.again(k));
        }
        c.same("new: hours(100)", x.hours(100), 100);
        c.same("new: level after 100 hours without cold", x.count(4), 0);
    }

    private static void gulfs() {
        Run x = new Run();
        for (int rows = 1; rows <= 8; rows++) {
            for (int columns = 1; columns <= 8; columns++) {
                c.yes("gulf(" + rows + ", " + columns + ")", x.gulf(rows, columns));
                c.same("rows", x.count(0), rows);
                c.same("columns", x.count(1), columns);
                c.same("last cell", x.cell(rows - 1, columns - 1, 0), 1);
                c.same("cell below", x.cell(rows, columns - 1, 0), NONE);
                c.same("cell beside", x.cell(rows - 1, columns, 0), NONE);
            }
        }
        int[] others = {0, 9, -1, Integer.MIN_VALUE, Integer.MAX_VALUE};
        for (int other : others) {
            c.no("gulf(" + other + ", 3)", x.gulf(other, 3));
            c.no("gulf(3, " + other + ")", x.gulf(3, other));
        }
        c.same("rows stay", x.count(0), 8);
        c.same("columns stay", x.count(1), 8);
    }

    private static void gulfsBeginAnew() {
        Run x = new Run();
        x.gulf(2, 2);
        x.ice(0, 0, 70, 9, true);
        x.ice(1, 1, 50, 1, false);
        x.land(0, 1, true);
        x.weather(0, 1000, 40, 1, 0);
        x.ship(10, 5, 0, 0);
        x.call(0, 99);
        Checks.orders(x, 0, "south;wait;");
        x.passage(1, 2, 3);
        x.turns(1);
        x.image(1);
        x.hours(3);
        x.weather(3, 10, -40, 1, 0);
        x.hours(1);
        c.no("gulf(2, 9)", x.gulf(2, 9));
        c.same("hour after a refused gulf", x.count(3), 4);
        c.yes("gulf(2, 2)", x.gulf(2, 2));
        int[] counts = {2, 2, 0, 0, 0, 0, 0, 0, 0, 1};
        for (int what = 0; what < counts.length; what++) {
            c.same("gulf anew: count(" + what + ")", x.count(what), counts[what]);
        }
        c.same("land is sea again", x.cell(0, 1, 0), 1);
        c.same("fast is over", x.cell(0, 0, 4), 0);
        c.same("no ship", x.cell(0, 0, 6), NONE);
        c.same("the order at hand stays", x.turn(0), 0);
        c.same("a new ship", x.ship(1, NONE, 1, 1), 0);
        int[] ship = {1, NONE, 1, 1, 0, 0, 0, NONE, 0, 0};
        for (int what = 0; what < ship.length; what++) {
            c.same("gulf anew: tell(0, " + what + ")", x.tell(0, what), ship[what]);
        }
        x.ice(0, 0, 50, 0, false);
        x.hours(5);
        c.same("no cold and no wind anew", x.cell(0, 0, 1), 50);
        c.no("no image 0", x.again(0));
        c.yes("image 1 stays", x.again(1));
        c.same("hour of the image", x.count(3), 0);
        c.same("ship of the image", x.count(2), 1);
    }

    private static void lands() {
        Run x = new Run();
        x.gulf(2, 3);
        c.no("land(-1, 0, true)", x.land(-1, 0, true));
        c.no("land(0, -1, true)", x.land(0, -1, true));
        c.no("land(2, 0, true)", x.land(2, 0, true));
        c.no("land(0, 3, true)", x.land(0, 3, true));
        c.no("it was sea", x.land(0, 0, false));
        x.ice(0, 0, 60, 7, true);
        x.ice(1, 2, 20, 0, false);
        c.yes("land(0, 0, true)", x.land(0, 0, true));
        c.no("it was land", x.land(0, 0, true));
        c.same("ice of land is no more", x.count(6), 20);
        c.same("level", x.count(4), 20);
        c.same("ridged", x.count(5), 0);
        c.yes("land(0, 0, false)", x.land(0, 0, false));
        int[] cell = {1, 0, 0, NONE, 0, 0, NONE};
        for (int what = 0; what < cell.length; what++) {
            c.same("sea again: " + what, x.cell(0, 0, what), cell[what]);
        }
        x.ship(5, NONE, 1, 1);
        c.no("a ship is there", x.land(1, 1, true));
        c.same("still sea", x.cell(1, 1, 0), 1);
    }

    private static void ices() {
        Run x = new Run();
        x.gulf(2, 2);
        x.land(1, 1, true);
        c.no("on land", x.ice(1, 1, 1, 1, false));
        c.no("row -1", x.ice(-1, 0, 1, 1, false));
        c.no("column 2", x.ice(0, 2, 1, 1, false));
        c.no("level -1", x.ice(0, 0, -1, 0, false));
        c.no("level 101", x.ice(0, 0, 101, 0, false));
        c.no("ridged -1", x.ice(0, 0, 0, -1, false));
        c.no("ridged 101", x.ice(0, 0, 0, 101, false));
        c.same("nothing laid", x.count(6), 0);
        c.yes("most", x.ice(0, 0, 100, 100, true));
        c.same("laid", x.count(6), 200);
        c.same("burden", x.cell(0, 0, 5), 150);
        c.yes("odd level", x.ice(0, 0, 7, 2, false));
        c.same("laid less what was there", x.count(6), 9);
        c.same("fast no more", x.cell(0, 0, 4), 0);
        c.same("burden is cut", x.cell(0, 0, 5), 5);
        c.yes("none", x.ice(0, 0, 0, 0, false));
        c.same("nothing is there", x.count(6), 0);
        x.ship(0, 9, 0, 0);
        Checks.orders(x, 0, "cut;");
        x.ice(0, 0, 50, 0, false);
        x.hours(1);
        c.same("channel", x.cell(0, 0, 3), 0);
        c.same("burden of a channel", x.cell(0, 0, 5), 0);
        c.yes("with a ship there", x.ice(0, 0, 50, 0, false));
        c.same("channel is gone", x.cell(0, 0, 3), NONE);
    }

    private static void weathers() {
        Run x = new Run();
        c.yes("all hours", x.weather(0, 1000, 0, 0, 0));
        c.yes("last hour", x.weather(999, 1, 0, 0, 0));
        c.yes("least", x.weather(0, 1, -40, 0, 0));
        c.yes("most", x.weather(0, 1, 40, 3, 50));
        c.no("hour -1", x.weather(-1, 1, 0, 0, 0));
        c.no("hour 1000", x.weather(1000, 1, 0, 0, 0));
        c.no("no hours", x.weather(0, 0, 0, 0, 0));
        c.no("1001 hours", x.weather(0, 1001, 0, 0, 0));
        c.no("beyond the last", x.weather(1, 1000, 0, 0, 0));
        c.no("far beyond", x.weather(999, Integer.MAX_VALUE, 0, 0, 0));
        c.no("cold -41", x.weather(0, 1, -41, 0, 0));
        c.no("cold 41", x.weather(0, 1, 41, 0, 0));
        c.no("way -1", x.weather(0, 1, 0, -1, 0));
        c.no("way 4", x.weather(0, 1, 0, 4, 0));
        c.no("force -1", x.weather(0, 1, 0, 0, -1));
        c.no("force 51", x.weather(0, 1, 0, 0, 51));
        x.ice(0, 0, 0, 0, false);
        x.hours(1);
        c.same("refused weather changed nothing", x.cell(0, 0, 1), 10);
    }

    private static void weatherOfPastHours() {
        Run x = new Run();
        x.hours(5);
        c.no("hour 4 is over", x.weather(4, 2, 0, 0, 0));
        c.yes("hour 5 is not", x.weather(5, 2, 40, 0, 0));
        x.hours(1);
        c.same("first", x.cell(0, 0, 1), 10);
        x.hours(1);
        c.same("second", x.cell(0, 0, 1), 19);
        x.hours(1);
        c.same("hour 7 had none", x.cell(0, 0, 1), 19);
        for (int k = 0; k < 9; k++) {
            x.hours(100);
        }
        x.hours(92);
        c.same("the end", x.count(3), 1000);
        c.no("no hour is left", x.weather(999, 1, 0, 0, 0));
        c.no("1000 is no hour", x.weather(1000, 1, 0, 0, 0));
    }

    private static void cells() {
        Run x = new Run();
        x.gulf(3, 3);
        x.ice(1, 2, 41, 6, true);
        x.ship(10, 100, 1, 2);
        int[] sea = {1, 41, 6, NONE, 1, 26, 0};
        for (int what = 0; what < sea.length; what++) {
            c.same("sea: " + what, x.cell(1, 2, what), sea[what]);
        }
        x.ice(0, 0, 41, 6, true);
        x.land(0, 0, true);
        int[] land = {0, 0, 0, NONE, 0, 0, NONE};
        for (int what = 0; what < land.length; what++) {
            c.same("land: " + what, x.cell(0, 0, what), land[what]);
        }
        c.same("what -1", x.cell(1, 2, -1), NONE);
        c.same("what 7", x.cell(1, 2, 7), NONE);
        c.same("row -1", x.cell(-1, 0, 0), NONE);
        c.same("column 3", x.cell(0, 3, 0), NONE);
        c.same("far", x.cell(Integer.MAX_VALUE, Integer.MIN_VALUE, 0), NONE);
    }

    private static void counts() {
        Run x = new Run();
        x.gulf(4, 5);
        x.ice(0, 0, 99, 60, false);
        x.ice(3, 4, 100, 100, false);
        x.ship(1, NONE, 0, 0);
        x.ship(1, NONE, 0, 1);
        x.passage(0, 1, 1);
        x.weather(0, 1, -40, 0, 0);
        x.weather(1, 1, 40, 0, 0);
        x.hours(1);
        // 99 * 40 / 400 and 60 * 40 / 800, 100 * 40 / 400 and 100 * 40 / 800.
        c.same("melted", x.count(8), 9 + 3 + 10 + 5);
        c.same("grown", x.count(7), 0);
        x.hours(1);
        c.same("grown of all", x.count(7), 18 * 10 + 1 + 1);
        int[] counts = {4, 5, 2, 2, 90 + 90 + 182, 57 + 95, 359, 182, 27, 1};
        for (int what = 0; what < counts.length; what++) {
            c.same("count(" + what + ")", x.count(what), counts[what]);
        }
        c.same("count(10)", x.count(10), NONE);
        c.same("count(-1)", x.count(-1), NONE);
    }
}
