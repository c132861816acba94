/** Promises 22 and 23: images of all that is told. */
public final class ImageTest {
    private static final int NONE = IcePilots.NONE;
    private static final Checks c = new Checks();

    public static void main(String[] args) {
        whichImages();
        everythingComesBack();
        weatherComesBack();
        ordersComeBack();
        tapeComesBack();
        imagesAreApart();
        refusedCallsChangeNothing();
        c.finish("ImageTest");
    }

    private static void whichImages() {
        IcePilots x = new IcePilots();
        c.no("image(-1)", x.image(-1));
        c.no("image(3)", x.image(3));
        c.no("again(0)", x.again(0));
        c.yes("image(2)", x.image(2));
        c.no("again(1)", x.again(1));
        c.yes("again(2)", x.again(2));
        c.yes("again(2) once more", x.again(2));
        c.no("again(-1)", x.again(-1));
        c.no("again(3)", x.again(3));
    }

    private static IcePilots busy() {
        IcePilots x = new IcePilots();
        x.gulf(3, 4);
        x.land(2, 3, true);
        x.ice(0, 1, 77, 5, false);
        x.ice(1, 2, 90, 20, true);
        x.weather(0, 6, 35, 1, 40);
        x.weather(6, 9, -20, 3, 20);
        x.ship(80, 300, 0, 0);
        x.ship(60, NONE, 2, 0);
        x.call(1, 44);
        Checks.orders(x, 0, "if hour=1:cut;if near>0:call 5;if north<60:north;east;");
        Checks.orders(x, 1, "if told=5:wait;north;");
        x.passage(3, 4, 5);
        x.passage(0, 9, 1);
        x.passage(1, 1, 100);
        x.turns(1);
        x.hours(3);
        Checks.orders(x, 1, "if told=5:wait;go;");
        return x;
    }

    private static void disturb(IcePilots x) {
        x.hours(7);
        x.weather(x.count(3), 50, 1, 2, 3);
        x.clear();
        x.passage(0, 100, 100);
        x.turns(2);
        x.call(0, 1234);
        Checks.orders(x, 0, "wait;");
        x.land(1, 3, true);
        x.ice(2, 2, 11, 12, true);
        x.ship(5, 5, 2, 2);
    }

    private static void everythingComesBack() {
        IcePilots x = busy();
        String told = Checks.all(x);
        x.image(0);
        c.yes("an image changes nothing", Checks.all(x).equals(told));
        disturb(x);
        c.no("all is other", Checks.all(x).equals(told));
        x.again(0);
        c.yes("all is again", Checks.all(x).equals(told));
        c.same("fault(0)", x.fault(0), 1);
        c.same("fault(1)", x.fault(1), 15);
        x.gulf(8, 8);
        x.hours(50);
        x.again(0);
        c.yes("all is again behind gulf", Checks.all(x).equals(told));
        IcePilots y = busy();
        y.hours(20);
        x.hours(20);
        c.yes("it goes on as it would have", Checks.all(x).equals(Checks.all(y)));
    }

    private static void weatherComesBack() {
        IcePilots x = new IcePilots();
        x.weather(5, 1, 40, 0, 0);
        x.image(0);
        x.weather(0, 1000, 10, 0, 0);
        x.again(0);
        x.hours(5);
        c.same("no cold yet", x.cell(0, 0, 1), 0);
        c.same("ahead by the weather again", x.ahead(1, 0, 4), 10);
        x.hours(2);
        c.same("cold at hour 5 alone", x.cell(0, 0, 1), 10);
    }

    private static void ordersComeBack() {
        IcePilots x = new IcePilots();
        x.gulf(1, 3);
        x.ship(0, NONE, 0, 1);
        Checks.orders(x, 0, "east;");
        x.image(0);
        Checks.orders(x, 0, "west;wait;");
        x.image(1);
        x.again(0);
        c.same("lines of image 0", x.tell(0, 9), 1);
        x.hours(1);
        c.same("east", x.tell(0, 3), 2);
        x.again(1);
        c.same("lines of image 1", x.tell(0, 9), 2);
        x.hours(1);
        c.same("west", x.tell(0, 3), 0);
    }

    private static void tapeComesBack() {
        IcePilots x = new IcePilots();
        x.ship(0, NONE, 0, 0);
        Checks.feed(x, "wait;cut;");
        x.image(0);
        c.same("taken", x.orders(0), 2);
        Checks.feed(x, "go go go go go");
        x.again(0);
        c.same("as long as it was", x.end(10), NONE);
        c.same("no lines yet", x.tell(0, 9), 0);
        c.same("the same bytes", x.orders(0), 2);
    }

    private static void imagesAreApart() {
        IcePilots x = new IcePilots();
        for (int k = 0; k < 3; k++) {
            x.hours(1);
            x.image(k);
        }
        for (int k = 2; k >= 0; k--) {
            c.yes("again(" + k + ")", x.again(k));
            c.same("hour of image " + k, x.count(3), k + 1);
        }
        x.hours(50);
        x.image(1);
        x.again(0);
        c.same("image 0 stays", x.count(3), 1);
        x.again(1);
        c.same("image 1 is new", x.count(3), 51);
        x.hours(1);
        x.again(1);
        c.same("image 1 stays as it was", x.count(3), 51);
    }

    private static void refusedCallsChangeNothing() {
        IcePilots x = busy();
        Checks.feed(x, "wait;");
        String told = Checks.all(x);
        x.gulf(0, 9);
        x.land(2, 3, true);
        x.land(0, 0, false);
        x.ice(2, 3, 1, 1, true);
        x.ice(0, 0, 101, 0, true);
        x.weather(0, 5, 0, 0, 0);
        x.weather(5, 5, 0, 0, 51);
        x.ship(1, 0, 0, 3);
        x.ship(1, 1, 2, 3);
        x.end(6);
        x.orders(2);
        x.call(0, 10000);
        x.call(2, 1);
        x.hours(0);
        x.hours(101);
        x.ahead(101, 0, 0);
        x.passage(0, 0, 0);
        x.turns(0);
        x.cost(0, 1);
        x.image(3);
        x.again(1);
        c.yes("refused calls change nothing", Checks.all(x).equals(told));
        c.same("the tape stays", x.end(5), 5);
        c.same("orders", x.orders(0), 1);
    }
}
