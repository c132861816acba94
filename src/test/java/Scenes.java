/** Objects for tests to begin with. */
final class Scenes {
    private Scenes() {
    }

    static Run sea(int rows, int columns) {
        Run x = new Run();
        x.gulf(rows, columns);
        return x;
    }

    static Run row(int columns) {
        return sea(1, columns);
    }

    /** Something of everything is here, and goes on in the hours to come, so that what a call disturbs is seen. */
    static Run busy() {
        Run x = sea(3, 4);
        x.land(2, 3, true);
        x.ice(0, 1, 77, 5, false);
        x.ice(1, 2, 90, 20, true);
        x.weather(0, 6, 35, 1, 40);
        x.weather(6, 9, -20, 3, 20);
        x.weather(400, 600, 3, 2, 7);
        x.ship(80, 300, 0, 0);
        x.ship(60, IcePilots.NONE, 2, 0);
        x.call(1, 44);
        Checks.orders(x, 0, "if hour<2:wait;if hour=2:cut;if near>0:call 5;if north<60:north;east;");
        Checks.orders(x, 1, "if told=5:wait;if hour>9:north;");
        x.passage(3, 4, 5);
        x.passage(0, 9, 1);
        x.passage(1, 1, 100);
        x.image(0);
        x.turns(1);
        x.hours(3);
        Checks.orders(x, 1, "if told=5:wait;go;");
        Checks.feed(x, "if row=1:cut;wait");
        x.image(1);
        return x;
    }
}
