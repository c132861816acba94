/** The boundary cases of promises 22 and 23, and of a run: its refused calls and its 512th call. */
public final class ImageBoundsTest {
    private static final int NONE = IcePilots.NONE;
    private static final Checks c = new Checks();

    public static void main(String[] args) {
        imageOfZeroToTwo();
        imageOfOthers();
        imageChangesNothingElse();
        againOfOthers();
        againOfNone();
        againOfAFullObject();
        againOfANewObject();
        againLeavesTheImages();
        againOverALargerGulf();
        refusedCallsInARow();
        refusedCallsAtTheLastHour();
        theLastCall();
        c.finish("ImageBoundsTest");
    }

    // Promise 22: image.

    private static void imageOfZeroToTwo() {
        for (int k = 0; k <= 2; k++) {
            int image = k;
            Run x = c.taken(new Run(), Checks.say("image", k), r -> r.image(image));
            for (int other = 0; other <= 2; other++) {
                c.same(Checks.say("again", other) + " behind image " + k, x.again(other) ? 1 : 0, other == k ? 1 : 0);
            }
        }
    }

    private static void imageOfOthers() {
        for (int k : Checks.outside(0, 2)) {
            c.refused(Scenes.busy(), Checks.say("image", k), r -> r.image(k));
            c.refused(new Run(), "new: " + Checks.say("image", k), r -> r.image(k));
        }
    }

    private static void imageChangesNothingElse() {
        Run x = Scenes.busy();
        x.hours(1);
        for (int k = 0; k <= 2; k++) {
            Run y = x.fork();
            y.image(k);
            c.yes("image " + k + " leaves what is", Told.now(y).equals(Told.now(x)));
            for (int other = 0; other <= 1; other++) {
                if (other != k) {
                    Run kept = x.fork();
                    kept.again(other);
                    Run still = y.fork();
                    still.again(other);
                    c.yes("image " + k + " leaves image " + other, Told.now(still).equals(Told.now(kept)));
                }
            }
        }
    }

    // Promise 23: again.

    private static void againOfOthers() {
        Run x = Scenes.busy();
        x.image(2);
        x.hours(1);
        for (int k : Checks.outside(0, 2)) {
            c.refused(x, Checks.say("again", k), r -> r.again(k));
            c.refused(new Run(), "new: " + Checks.say("again", k), r -> r.again(k));
        }
    }

    private static void againOfNone() {
        Run x = Scenes.busy();
        c.refused(x, "again(2)", r -> r.again(2));
        x.gulf(1, 1);
        c.refused(x, "again(2) behind gulf", r -> r.again(2));
        x.again(0);
        c.refused(x, "again(2) behind again(0)", r -> r.again(2));
    }

    private static Run full() {
        Run x = Scenes.sea(8, 8);
        x.weather(0, 1000, 40, 3, 50);
        for (int k = 0; k < 8; k++) {
            x.ice(k, k, 100, 100, k % 2 == 0);
            x.ship(200, k % 2 == 0 ? 5000 : NONE, k, 7 - k);
            x.call(k, 9999);
            Checks.orders(x, k, "cut;".repeat(20));
        }
        for (int k = 0; k < 6; k++) {
            x.passage(1000, 100, 100);
        }
        x.turns(1);
        x.hours(100);
        Checks.orders(x, 0, "cut;".repeat(21));
        Checks.feed(x, "wait;".repeat(80));
        return x;
    }

    private static void againOfAFullObject() {
        Run x = full();
        x.image(1);
        Run y = x.fork();
        changeAll(y);
        c.yes("again(1)", y.again(1));
        c.told("again, of all that is full,", y, x);
        c.same("the tape is full", y.feed(0, 0, 0, 0, 0), NONE);
        c.same("its bytes", y.orders(7), NONE);
        c.same("its place", y.fault(1), 100);
    }

    private static void changeAll(Run x) {
        x.end(0);
        Checks.feed(x, " ".repeat(400));
        x.orders(0);
        for (int k = 0; k < 8; k++) {
            x.call(k, k);
            x.orders(k);
        }
        x.hours(1);
        x.gulf(7, 7);
        for (int k = 0; k < 7; k++) {
            x.land(k, k, true);
            x.ship(1, k + 1, 6, 6 - k);
            x.ice(k, k, 1, 1, true);
        }
        x.weather(0, 1000, -40, 0, 1);
        x.clear();
        for (int k = 0; k < 6; k++) {
            x.passage(k, 1 + k, 1 + k);
        }
        x.turns(2);
        x.clear();
    }

    private static void againOfANewObject() {
        Run x = new Run();
        x.image(0);
        Run y = x.fork();
        y.gulf(8, 8);
        y.ice(0, 0, 100, 100, true);
        y.ship(1, 1, 7, 7);
        y.passage(1, 1, 1);
        y.turns(2);
        y.weather(0, 1000, 40, 1, 50);
        y.hours(100);
        Checks.orders(y, 0, "go;");
        Checks.feed(y, "wait;");
        c.yes("again(0)", y.again(0));
        c.told("again, of a new object,", y, x);
    }

    private static void againLeavesTheImages() {
        Run x = Scenes.busy();
        x.hours(7);
        x.image(2);
        for (int k = 0; k <= 2; k++) {
            Run y = x.fork();
            c.yes(Checks.say("again", k), y.again(k));
            c.yes(Checks.say("again", k) + " and on", y.hours(5) != NONE);
            y.clear();
            for (int other = 0; other <= 2; other++) {
                Run kept = x.fork();
                kept.again(other);
                Run still = y.fork();
                still.again(other);
                c.told(Checks.say("again", k) + ", of image " + other + ",", still, kept);
            }
        }
    }

    private static void againOverALargerGulf() {
        Run x = Scenes.sea(2, 2);
        x.image(0);
        x.gulf(8, 8);
        x.ice(7, 7, 100, 100, true);
        x.ice(0, 3, 100, 100, true);
        x.again(0);
        c.counts("small again", x, 2, 2, 0, 0, 0, 0, 0, 0, 0);
        c.same("no cell there", x.cell(7, 7, 1), NONE);
        x.weather(0, 1, 0, 3, 50);
        x.hours(1);
        c.counts("nothing drifts in", x, 2, 2, 0, 1, 0, 0, 0, 0, 0);
    }

    // A run of calls.

    private static void refusedCallsInARow() {
        Run x = Scenes.busy();
        Run y = x.fork();
        refuseAll(y);
        c.told("a row of refused calls", y, x);
        refuseAll(y);
        c.told("the same row once more", y, x);
    }

    private static void refuseAll(Run x) {
        c.no("gulf", x.gulf(0, 9));
        c.no("land", x.land(2, 3, true));
        c.no("land", x.land(0, 0, true));
        c.no("ice", x.ice(2, 3, 1, 1, true));
        c.no("ice", x.ice(0, 0, 101, 0, true));
        c.no("weather", x.weather(2, 5, 40, 0, 50));
        c.no("weather", x.weather(5, 5, 40, 0, 51));
        c.same("ship", x.ship(1, 0, 1, 3), NONE);
        c.same("end", x.end(18), NONE);
        c.same("orders", x.orders(2), -2);
        c.same("fault", x.fault(2), NONE);
        c.no("call", x.call(0, 10000));
        c.no("call", x.call(2, 1));
        c.same("hours", x.hours(0), NONE);
        c.same("hours", x.hours(101), NONE);
        c.same("ahead", x.ahead(101, 0, 0), -2);
        c.same("cell", x.cell(3, 0, 0), NONE);
        c.same("tell", x.tell(2, 0), NONE);
        c.same("count", x.count(10), NONE);
        c.same("passage", x.passage(0, 0, 0), NONE);
        c.same("turns", x.turns(0), NONE);
        c.same("turn", x.turn(3), NONE);
        c.same("cost", x.cost(0, 1), NONE);
        c.no("image", x.image(3));
        c.no("again", x.again(2));
    }

    private static void refusedCallsAtTheLastHour() {
        Run x = full();
        for (int k = 0; k < 9; k++) {
            x.hours(100);
        }
        c.same("the end", x.count(3), 1000);
        c.refused(x, "hours(1)", NONE, r -> r.hours(1));
        c.refused(x, "ahead(1, 0, 0)", -2, r -> r.ahead(1, 0, 0));
        c.refused(x, "weather(999, 1)", r -> r.weather(999, 1, 0, 0, 0));
        c.refused(x, "a ninth ship", NONE, r -> r.ship(1, 1, 0, 0));
        c.refused(x, "a seventh passage", NONE, r -> r.passage(1, 1, 1));
        c.refused(x, "feed", NONE, r -> r.feed(1, 1, 1, 1, 1));
        c.taken(x, "ice at the end", r -> r.ice(0, 0, 1, 1, false));
        c.taken(x, "call at the end", r -> r.call(7, 1));
    }

    /** As much is asked of the 512th call as of the first one. */
    private static void theLastCall() {
        Run x = Scenes.busy();
        x.image(2);
        int level = x.fork().ahead(100, 0, 4);
        while (x.callsLeft() > 4) {
            c.same("ahead, again and again", x.ahead(100, 0, 4), level);
        }
        c.yes("the 509th call", x.again(2));
        c.same("the 510th call", x.orders(0), NONE);
        c.same("the 511th call", x.fault(1), 17);
        c.same("the 512th call", x.hours(100), 103);
        c.same("no call is left", x.callsLeft(), 0);
    }
}
