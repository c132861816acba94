/** Promises 7 to 10: the tape, texts of orders and their faults. */
public final class OrdersTest {
    private static final int NONE = IcePilots.NONE;
    private static final Checks c = new Checks();

    public static void main(String[] args) {
        tape();
        tapeIsTaken();
        bytesComeHighestFirst();
        goodTexts();
        faultsOfForm();
        faultsOfDepth();
        faultsOfLength();
        faultStays();
        everyWord();
        precedence();
        c.finish("OrdersTest");
    }

    private static Run oneShip() {
        Run x = new Run();
        x.ship(10, 100, 0, 0);
        return x;
    }

    private static void tape() {
        Run x = new Run();
        for (int k = 1; k <= 20; k++) {
            c.same("feed " + k, x.feed(k, 0, 0, 0, 0), 20 * k);
        }
        c.same("feed 21", x.feed(1, 1, 1, 1, 1), NONE);
        c.same("nothing came", x.end(401), NONE);
        c.same("end(400)", x.end(400), 400);
        c.same("end(381)", x.end(381), 381);
        c.same("one too many", x.feed(1, 1, 1, 1, 1), NONE);
        c.same("end(382)", x.end(382), NONE);
        c.same("end(-1)", x.end(-1), NONE);
        c.same("end(least)", x.end(Integer.MIN_VALUE), NONE);
        c.same("end(380)", x.end(380), 380);
        c.same("just enough", x.feed(1, 1, 1, 1, 1), 400);
        c.same("end(0)", x.end(0), 0);
        c.same("end(1)", x.end(1), NONE);
    }

    private static void tapeIsTaken() {
        Run x = oneShip();
        Checks.feed(x, "wait;");
        c.same("no ship 1", x.orders(1), -2);
        c.same("no ship -1", x.orders(-1), -2);
        c.same("the tape stays", x.end(5), 5);
        c.same("ship 0", x.orders(0), 1);
        c.same("the tape is empty", x.end(1), NONE);
        Checks.feed(x, "go;");
        c.same("a fault", x.orders(0), NONE);
        c.same("the tape is empty behind a fault", x.end(1), NONE);
        c.same("orders stay behind a fault", x.tell(0, 9), 1);
        c.same("an empty text", x.orders(0), 0);
        c.same("no lines", x.tell(0, 9), 0);
    }

    private static void bytesComeHighestFirst() {
        Run x = oneShip();
        // "wait;call 77;cut;   " in five numbers.
        c.same("feed", x.feed(0x77616974, 0x3b63616c, 0x6c203737, 0x3b637574, 0x3b202020), 20);
        c.same("lines", x.orders(0), 3);
        // A byte above 127 is no token, wherever it stands.
        x.feed(0x77616974, 0x3bff0000, 0, 0, 0);
        x.end(6);
        c.same("byte 255", x.orders(0), NONE);
        c.same("its place", x.fault(1), 5);
    }

    private static void goodTexts() {
        Run x = oneShip();
        c.takes(x, 0, "", 0);
        c.takes(x, 0, " \n \n", 0);
        c.takes(x, 0, "north;east;south;west;wait;cut;call 0;", 7);
        c.takes(x, 0, "call9999;call\n12 ;", 2);
        c.takes(x, 0, "if hour=0:wait;", 1);
        c.takes(x, 0, "if not hour=0000 and not(level<1)or ridge>9999:call 1;", 1);
        c.takes(x, 0, "if(hour=1)and(fuel>2)or(held<3):cut;", 1);
        c.takes(x, 0, "if near=1or row=2and column=3:north;", 1);
        c.takes(x, 0, "if north=1 or east=1 or south=1 or west=1 or told=1:south;", 1);
        c.takes(x, 0, "\n if \n hour \n < \n 5 \n : \n wait \n ; \n", 1);
        StringBuilder longest = new StringBuilder("if row=1");
        while (longest.length() < 390) {
            longest.append("or row=1");
        }
        String text = longest.toString() + ":wait;";
        c.takes(x, 0, text + " ".repeat(400 - text.length()), 1);
    }

    private static void faultsOfForm() {
        Run x = oneShip();
        c.refuses(x, 0, "go;", 1, 0);
        c.refuses(x, 0, "east", 1, 4);
        c.refuses(x, 0, "east  ", 1, 6);
        c.refuses(x, 0, "if", 1, 2);
        c.refuses(x, 0, "if \n", 1, 4);
        c.refuses(x, 0, ";", 1, 0);
        c.refuses(x, 0, " :", 1, 1);
        c.refuses(x, 0, "12;", 1, 0);
        c.refuses(x, 0, "if:wait;", 1, 2);
        c.refuses(x, 0, "if hour:wait;", 1, 7);
        c.refuses(x, 0, "if hour=:wait;", 1, 8);
        c.refuses(x, 0, "if hour==1:wait;", 1, 8);
        c.refuses(x, 0, "if hour<=1:wait;", 1, 8);
        c.refuses(x, 0, "if hour=1 wait;", 1, 10);
        c.refuses(x, 0, "if hour=1 2:wait;", 1, 10);
        c.refuses(x, 0, "if hour=12345:wait;", 1, 8);
        c.refuses(x, 0, "if hour=00001:wait;", 1, 8);
        c.refuses(x, 0, "if hour=1234 5:wait;", 1, 13);
        c.refuses(x, 0, "if 1=hour:wait;", 1, 3);
        c.refuses(x, 0, "if wait=1:wait;", 1, 3);
        c.refuses(x, 0, "if not not hour=1:wait;", 1, 7);
        c.refuses(x, 0, "if and hour=1:wait;", 1, 3);
        c.refuses(x, 0, "if hour=1 or:wait;", 1, 12);
        c.refuses(x, 0, "if hour=1 and or hour=2:wait;", 1, 14);
        c.refuses(x, 0, "if ():wait;", 1, 4);
        c.refuses(x, 0, "if (hour=1:wait;", 1, 10);
        c.refuses(x, 0, "if hour=1):wait;", 1, 9);
        c.refuses(x, 0, "if hour=1:level;", 1, 10);
        c.refuses(x, 0, "if hour=1:if hour=2:wait;", 1, 10);
        c.refuses(x, 0, "if hour=1:;", 1, 10);
        c.refuses(x, 0, "call;", 1, 4);
        c.refuses(x, 0, "call wait;", 1, 5);
        c.refuses(x, 0, "call 12345;", 1, 5);
        c.refuses(x, 0, "call", 1, 4);
        c.refuses(x, 0, "call 1", 1, 6);
        c.refuses(x, 0, "wait 1;", 1, 5);
        c.refuses(x, 0, "wait;;", 1, 5);
        c.refuses(x, 0, "waitt;", 1, 0);
        c.refuses(x, 0, "wai;", 1, 0);
        c.refuses(x, 0, "waitz;", 1, 0);
        c.refuses(x, 0, "wait`;", 1, 4);
        c.refuses(x, 0, "wait{;", 1, 4);
        c.refuses(x, 0, "xait;", 1, 0);
        c.refuses(x, 0, ";".repeat(400), 1, 0);
        c.refuses(x, 0, "if" + "(".repeat(398), 1, 10);
        c.refuses(x, 0, "northeast;", 1, 0);
        c.refuses(x, 0, "columns;", 1, 0);
        c.refuses(x, 0, "Wait;", 1, 0);
        c.refuses(x, 0, "waiT;", 1, 0);
        c.refuses(x, 0, "waitT;", 1, 4);
        c.refuses(x, 0, "wait\t;", 1, 4);
        c.refuses(x, 0, "wait\r;", 1, 4);
        c.refuses(x, 0, "wait;\0", 1, 5);
        c.refuses(x, 0, "wait;.", 1, 5);
        c.refuses(x, 0, "wait; go $;", 1, 6);
        c.refuses(x, 0, "iff hour=1:wait;", 1, 0);
    }

    private static String nested(int pairs) {
        return "if " + "(".repeat(pairs) + "hour=1" + ")".repeat(pairs) + ":wait;";
    }

    private static void faultsOfDepth() {
        Run x = oneShip();
        c.takes(x, 0, nested(7), 1);
        c.takes(x, 0, "if ((((((not(hour=1)or(hour=2)))))))and(hour=3):wait;", 1);
        c.refuses(x, 0, nested(8), 1, 11);
        c.refuses(x, 0, nested(60), 1, 11);
        c.refuses(x, 0, "if ((((((((  ", 1, 13);
        c.refuses(x, 0, "if ((((((((  $", 1, 13);
        c.refuses(x, 0, "if (((((((not( hour=1))))))):wait;", 1, 15);
    }

    private static void faultsOfLength() {
        Run x = oneShip();
        c.takes(x, 0, "cut;".repeat(20), 20);
        c.takes(x, 0, "cut;".repeat(20) + "   ", 20);
        c.refuses(x, 0, "cut;".repeat(20) + "  wait;", 2, 82);
        c.refuses(x, 0, "cut;".repeat(20) + "if hour=1:cut;wait;", 2, 80);
        c.refuses(x, 0, "cut;".repeat(100), 2, 80);
        c.refuses(x, 0, "cut;".repeat(20) + "cut", 1, 83);
        c.refuses(x, 0, "cut;".repeat(99) + "cut:", 1, 399);
        c.refuses(x, 0, "cut;".repeat(99) + "cut ", 1, 400);
        c.refuses(x, 0, "go;" + "cut;".repeat(30), 1, 0);
        c.same("orders that were taken", x.tell(0, 9), 20);
    }

    private static void faultStays() {
        Run x = oneShip();
        c.refuses(x, 0, "cut;cut", 1, 7);
        c.same("no such ship", x.orders(3), -2);
        c.same("fault(0)", x.fault(0), 1);
        c.same("fault(1)", x.fault(1), 7);
        x.gulf(3, 3);
        c.same("fault(1) after gulf", x.fault(1), 7);
        c.same("fault(2)", x.fault(2), NONE);
        c.same("fault(-1)", x.fault(-1), NONE);
    }

    /** The line that holds tells what was seen. */
    private static void seen(Run x, String what, int value) {
        c.takes(x, 0, "if " + what + "=" + value + ":wait;", 1);
        c.same(what + "=" + value, x.ahead(1, 0, 3), 0);
        Checks.orders(x, 0, "if " + what + "<" + value + ":wait;if " + what + ">" + value + ":cut;if "
                + what + "=" + value + ":call 7;");
        x.image(2);
        x.hours(1);
        c.same("line for " + what + " " + value, x.tell(0, 7), 2);
        x.again(2);
    }

    private static void everyWord() {
        Run x = new Run();
        x.gulf(4, 4);
        x.ice(2, 1, 61, 8, false);
        x.ice(1, 1, 31, 2, false);
        x.ice(2, 2, 100, 100, false);
        x.land(3, 1, true);
        x.ship(20, 77, 2, 1);
        x.ship(1, NONE, 2, 0);
        x.call(0, 4321);
        x.hours(9);
        seen(x, "hour", 9);
        seen(x, "level", 61);
        seen(x, "ridge", 8);
        seen(x, "fuel", 77);
        seen(x, "held", 1);
        seen(x, "near", 1);
        seen(x, "row", 2);
        seen(x, "column", 1);
        seen(x, "north", 17);
        seen(x, "east", 150);
        seen(x, "south", 999);
        seen(x, "west", 999);
        seen(x, "told", 4321);
        x.ship(5, 1, 1, 1);
        seen(x, "held", 0);
        seen(x, "near", 2);
        seen(x, "north", 999);
        fuelOfOthers();
        edgeOfTheGulf();
    }

    private static void fuelOfOthers() {
        Run x = new Run();
        x.ship(1, NONE, 0, 0);
        Checks.orders(x, 0, "if fuel=0:wait;if fuel>0:wait;if fuel<0:wait;");
        x.hours(1);
        c.same("fuel of a ship without", x.tell(0, 7), 2);
    }

    private static void edgeOfTheGulf() {
        Run x = new Run();
        x.ship(1, NONE, 0, 0);
        Checks.orders(x, 0, "if north=999 and east=999 and south=999 and west=999:wait;");
        x.hours(1);
        c.same("no cells around", x.tell(0, 7), 0);
    }

    /** row=0 always holds here, row=1 never does. */
    private static void holds(String condition, boolean want) {
        Run x = oneShip();
        String text = condition.replace("T", "row=0").replace("F", "row=1");
        c.takes(x, 0, "if " + text + ":wait;", 1);
        x.hours(1);
        c.same(text, x.tell(0, 7), want ? 0 : NONE);
    }

    private static void precedence() {
        holds("T", true);
        holds("F", false);
        holds("not T", false);
        holds("not F", true);
        holds("T or F and F", true);
        holds("F and F or T", true);
        holds("(T or F)and F", false);
        holds("F and(F or T)", false);
        holds("not F and F", false);
        holds("not(F and F)", true);
        holds("not T or T", true);
        holds("not(T or T)", false);
        holds("F or F or T", true);
        holds("T and T and F", false);
        holds("T and not F or F", true);
        holds("not(not(not(T)))", false);
        holds("((((((F or not(T and F)))))))", true);
        holds("F or(T and(F or(T and(F or(T and(F or T))))))", true);
        holds("T and(F or(T and(F or(T and(F or(T and F))))))", false);
    }
}
