/** Promises 22 and 23: images of all that is told. */
public final class ImageTest {
    private static final int NONE = IcePilots.NONE;
    private static final Checks c = new Checks();

    public static void main(String[] args) {
        whichImages();
        everythingComesBack();
        weatherComesBack();
        ordersComeBack();
        tapeComesBack();
        imagesAreApart();
        c.finish("ImageTest");
    }

    private static void whichImages() {
        Run x = new Run();
        c.no("image(-1)", x.image(-1));
        c.no("image(3)", x.image(3));
        c.no("again(0)", x.again(0));
        c.yes("image(2)", x.image(2));
        c.no("again(1)", x.again(1));
        c.yes("again(2)", x.again(2));
        c.yes("again(2) once more", x.again(2));
        c.no("again(-1)", x.again(-1));
        c.no("again(3)", x.again(3));
    }

    private static void disturb(Run x) {
        x.hours(7);
        x.weather(x.count(3), 50, 1, 2, 3);
        x.clear();
        x.passage(0, 100, 100);
        x.turns(2);
        x.call(0, 1234);
        Checks.orders(x, 0, "wait;");
        x.land(1, 3, true);
        x.ice(2, 2, 11, 12, true);
        x.ship(5, 5, 2, 2);
    }

    private static void everythingComesBack() {
        Run x = Scenes.busy();
        String told = Told.now(x);
        x.image(0);
        c.yes("an image changes nothing", Told.now(x).equals(told));
        disturb(x);
        c.no("all is other", Told.now(x).equals(told));
        x.again(0);
        c.yes("all is again", Told.now(x).equals(told));
        c.same("fault(0)", x.fault(0), 1);
        c.same("fault(1)", x.fault(1), 15);
        x.gulf(8, 8);
        x.hours(50);
        x.again(0);
        c.yes("all is again behind gulf", Told.now(x).equals(told));
        Run y = Scenes.busy();
        y.hours(20);
        x.hours(20);
        c.yes("it goes on as it would have", Told.now(x).equals(Told.now(y)));
    }

    private static void weatherComesBack() {
        Run x = new Run();
        x.weather(5, 1, 40, 0, 0);
        x.image(0);
        x.weather(0, 1000, 10, 0, 0);
        x.again(0);
        x.hours(5);
        c.same("no cold yet", x.cell(0, 0, 1), 0);
        c.same("ahead by the weather again", x.ahead(1, 0, 4), 10);
        x.hours(2);
        c.same("cold at hour 5 alone", x.cell(0, 0, 1), 10);
    }

    private static void ordersComeBack() {
        Run x = new Run();
        x.gulf(1, 3);
        x.ship(0, NONE, 0, 1);
        Checks.orders(x, 0, "east;");
        x.image(0);
        Checks.orders(x, 0, "west;wait;");
        x.image(1);
        x.again(0);
        c.same("lines of image 0", x.tell(0, 9), 1);
        x.hours(1);
        c.same("east", x.tell(0, 3), 2);
        x.again(1);
        c.same("lines of image 1", x.tell(0, 9), 2);
        x.hours(1);
        c.same("west", x.tell(0, 3), 0);
    }

    private static void tapeComesBack() {
        Run x = new Run();
        x.ship(0, NONE, 0, 0);
        Checks.feed(x, "wait;cut;");
        x.image(0);
        c.same("taken", x.orders(0), 2);
        Checks.feed(x, "go go go go go");
        x.again(0);
        c.same("as long as it was", x.end(10), NONE);
        c.same("no lines yet", x.tell(0, 9), 0);
        c.same("the same bytes", x.orders(0), 2);
    }

    private static void imagesAreApart() {
        Run x = new Run();
        for (int k = 0; k < 3; k++) {
            x.hours(1);
            x.image(k);
        }
        for (int k = 2; k >= 0; k--) {
            c.yes("again(" + k + ")", x.again(k));
            c.same("hour of image " + k, x.count(3), k + 1);
        }
        x.hours(50);
        x.image(1);
        x.again(0);
        c.same("image 0 stays", x.count(3), 1);
        x.again(1);
        c.same("image 1 is new", x.count(3), 51);
        x.hours(1);
        x.again(1);
        c.same("image 1 stays as it was", x.count(3), 51);
    }
}
