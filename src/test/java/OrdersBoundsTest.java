/** The boundary cases of promises 7 to 10, and of the tape, its tokens, texts and faults in the Terms. */
public final class OrdersBoundsTest {
    private static final int NONE = IcePilots.NONE;
    private static final Checks c = new Checks();

    public static void main(String[] args) {
        feedToFourHundred();
        feedAboveFourHundred();
        feedOfMostAndLeast();
        feedBehindAnEnd();
        endOfMostAndLeast();
        endOfOthers();
        endKeepsTheFirstBytes();
        ordersOfNoShip();
        ordersOfTheLastShip();
        ordersEmptyTheTape();
        ordersWithAFaultChangeNothingElse();
        ordersOfAnEmptyTape();
        ordersOfAFullTape();
        faultOfAnotherWhat();
        faultOfTheLatestOrders();
        bytesBeforeAWord();
        bytesBehindAWord();
        bytesBehindANumber();
        bytesBehindASign();
        wordsAsLongAsTheyGo();
        numbersOfOneToFourDigits();
        numbersOfFiveDigitsAndMore();
        signsOneByteEach();
        theEndInEveryPlace();
        tokensInEveryPlace();
        wordsLetterByLetter();
        ordersBehindOthers();
        eightOpen();
        aNinthOpen();
        twentyLines();
        aTwentyFirstLine();
        aFaultGoesBeforeTheTwentyFirstLine();
        c.finish("OrdersBoundsTest");
    }

    private static Run oneShip() {
        Run x = new Run();
        x.ship(10, 100, 0, 0);
        return x;
    }

    /** Each text is read by an object of its own. */
    private static void takes(String text, int lines) {
        c.takes(oneShip(), 0, text, lines);
    }

    private static void refuses(String text, int fault, int place) {
        c.refuses(oneShip(), 0, text, fault, place);
    }

    private static Run tapeOf(int length) {
        Run x = Scenes.busy();
        x.end(0);
        Checks.feed(x, "wait;" + " ".repeat(length - 5));
        return x;
    }

    // Promise 7: feed.

    private static void feedToFourHundred() {
        Run x = new Run();
        for (int k = 1; k <= 20; k++) {
            c.same("feed " + k, x.feed(0, 0, 0, 0, 0), 20 * k);
        }
        c.taken(tapeOf(379), "feed behind 379", 399, r -> r.feed(1, 2, 3, 4, 5));
        c.taken(tapeOf(380), "feed behind 380", 400, r -> r.feed(1, 2, 3, 4, 5));
    }

    private static void feedAboveFourHundred() {
        for (int length : new int[] {381, 382, 399, 400}) {
            Run x = tapeOf(length);
            c.refused(x, "feed behind " + length, NONE, r -> r.feed(1, 2, 3, 4, 5));
            c.same("its bytes stay", x.orders(0), 1);
        }
    }

    private static void feedOfMostAndLeast() {
        Run x = oneShip();
        c.same("feed of the least", x.feed(Integer.MIN_VALUE, 0, 0, 0, 0), 20);
        c.same("its first byte is 128", x.orders(0), NONE);
        c.same("no token", x.fault(1), 0);
        c.same("feed of the most", x.feed(0x77616974, 0x3b7fffff, Integer.MAX_VALUE, -1, 0), 20);
        c.same("bytes 127 and 255 are no tokens", x.orders(0), NONE);
        c.same("their place", x.fault(1), 5);
        c.same("the highest first, each number in its turn", x.feed(0x6361, 0x6c6c2031, 0, 0, 0), 20);
        c.same("two bytes of 0 come first", x.orders(0), NONE);
        c.same("the place of byte 0", x.fault(1), 0);
        x.feed(0x20206361, 0x6c6c2031, 0x3233343b, 0x0a776169, 0x743b2020);
        c.same("twenty bytes in their order", x.orders(0), 2);
    }

    private static void feedBehindAnEnd() {
        Run x = oneShip();
        Checks.feed(x, "wait;go");
        x.end(5);
        c.same("feed behind an end", x.feed(0x6375743b, 0x20202020, 0x20202020, 0x20202020, 0x20202020), 25);
        c.same("what end took is not there", x.orders(0), 2);
    }

    // Promise 8: end.

    private static void endOfMostAndLeast() {
        for (int n : new int[] {0, 1, 399, 400}) {
            Run x = c.taken(tapeOf(400), Checks.say("end", n), n, r -> r.end(n));
            c.refused(x, "one more than it has", NONE, r -> r.end(n + 1));
            c.taken(x, "as many as it has", n, r -> r.end(n));
        }
        c.taken(new Run(), "end(0) of an empty tape", 0, r -> r.end(0));
    }

    private static void endOfOthers() {
        for (int length : new int[] {20, 400}) {
            Run x = tapeOf(length);
            for (int n : Checks.outside(0, length)) {
                c.refused(x, Checks.say("end", n) + " of " + length, NONE, r -> r.end(n));
            }
        }
        for (int n : Checks.outside(0, 0)) {
            c.refused(new Run(), Checks.say("end", n) + " of an empty tape", NONE, r -> r.end(n));
        }
    }

    private static void endKeepsTheFirstBytes() {
        Run x = oneShip();
        Checks.feed(x, "wait;cut;north;");
        x.end(9);
        c.same("the first bytes alone", x.orders(0), 2);
        Checks.feed(x, "wait;cut;north;");
        x.end(8);
        c.same("one less", x.orders(0), NONE);
        c.same("the end is its place", x.fault(1), 8);
    }

    // Promise 9: orders.

    private static void ordersOfNoShip() {
        Run x = Scenes.busy();
        for (int ship : Checks.outside(0, 1)) {
            c.refused(x, Checks.say("orders", ship), -2, r -> r.orders(ship));
        }
        Run y = new Run();
        Checks.feed(y, "wait;");
        c.refused(y, "orders(0) without ships", -2, r -> r.orders(0));
        y.ship(0, NONE, 0, 0);
        c.same("the tape stayed", y.orders(0), 1);
    }

    private static void ordersOfTheLastShip() {
        Run x = Scenes.sea(3, 3);
        for (int k = 0; k < 8; k++) {
            x.ship(0, NONE, k / 3, k % 3);
        }
        Checks.feed(x, "wait;");
        c.refused(x, "orders(8) of eight", -2, r -> r.orders(8));
        c.same("orders(7) of eight", x.orders(7), 1);
        c.same("its lines", x.tell(7, 9), 1);
        c.same("no lines of another", x.tell(6, 9), 0);
    }

    private static void ordersEmptyTheTape() {
        for (String text : new String[] {"", "wait;", "go;", "cut;".repeat(21), "wait;".repeat(20) + " ".repeat(300)}) {
            Run x = oneShip();
            Checks.feed(x, text);
            x.orders(0);
            c.refused(x, "end(1) behind orders", NONE, r -> r.end(1));
            c.taken(x, "feed behind orders", 20, r -> r.feed(0, 0, 0, 0, 0));
        }
    }

    /** Two objects whose latest fault is the same: one reads the text once more, the other forgets its tape. */
    private static void ordersWithAFaultChangeNothingElse() {
        for (String text : new String[] {"go;", "wait", "cut;".repeat(21)}) {
            Run x = Scenes.busy();
            Checks.orders(x, 0, text);
            x.end(0);
            Checks.orders(x, 0, text);
            Checks.feed(x, text);
            Run read = c.taken(x, "orders of " + text, NONE, r -> r.orders(0));
            c.told("a fault in the orders", read, c.taken(x, "end(0)", 0, r -> r.end(0)));
            c.same("lines stay", read.tell(0, 9), 5);
        }
    }

    private static void ordersOfAnEmptyTape() {
        Run x = Scenes.busy();
        x.end(0);
        Run y = c.taken(x, "orders of an empty tape", 0, r -> r.orders(0));
        c.same("no lines", y.tell(0, 9), 0);
        c.same("no fault", y.fault(0), 0);
        c.same("no place", y.fault(1), NONE);
        y.hours(1);
        c.same("no line holds", y.tell(0, 7), NONE);
        c.same("the other's stay", y.tell(1, 9), 2);
    }

    private static void ordersOfAFullTape() {
        String longest = "if row=0" + " or row=1".repeat(41) + "and row=2:wait;";
        takes(longest + " ".repeat(400 - longest.length()), 1);
        takes(" ".repeat(400 - longest.length()) + longest, 1);
        takes(" ".repeat(400), 0);
        takes("\n".repeat(395) + "wait;", 1);
        refuses("\n".repeat(396) + "wait", 1, 400);
        refuses(" ".repeat(399) + "$", 1, 399);
        refuses(";".repeat(400), 1, 0);
        refuses("a".repeat(400), 1, 0);
        refuses("call " + "1".repeat(395), 1, 5);
    }

    // Promise 10: fault.

    private static void faultOfAnotherWhat() {
        Run x = Scenes.busy();
        for (int what : Checks.outside(0, 1)) {
            c.refused(x, Checks.say("fault", what), NONE, r -> r.fault(what));
            c.refused(new Run(), "new: " + Checks.say("fault", what), NONE, r -> r.fault(what));
        }
    }

    private static void faultOfTheLatestOrders() {
        Run x = oneShip();
        c.refuses(x, 0, "cut;".repeat(21), 2, 80);
        c.same("no such ship", x.orders(1), -2);
        c.same("fault(0) stays", x.fault(0), 2);
        c.same("fault(1) stays", x.fault(1), 80);
        c.refuses(x, 0, "$", 1, 0);
        c.takes(x, 0, "wait;", 1);
        c.same("no such ship", x.orders(-1), -2);
        c.same("without a fault", x.fault(0), 0);
        c.same("without a place", x.fault(1), NONE);
    }

    // The bytes and tokens of the Terms.

    private static boolean blank(int b) {
        return b == 10 || b == 32;
    }

    private static boolean letter(int b) {
        return b >= 'a' && b <= 'z';
    }

    private static boolean digit(int b) {
        return b >= '0' && b <= '9';
    }

    private static void bytesBeforeAWord() {
        for (int b = 0; b < 256; b++) {
            String text = (char) b + "wait;";
            if (blank(b)) {
                takes(text, 1);
            } else {
                refuses(text, 1, 0);
            }
        }
    }

    private static void bytesBehindAWord() {
        for (int b = 0; b < 256; b++) {
            String text = "wait" + (char) b + ";";
            if (blank(b)) {
                takes(text, 1);
            } else {
                refuses(text, 1, letter(b) ? 0 : b == ';' ? 5 : 4);
            }
        }
    }

    private static void bytesBehindANumber() {
        for (int b = 0; b < 256; b++) {
            String text = "call 123" + (char) b + ";";
            if (blank(b) || digit(b)) {
                takes(text, 1);
            } else {
                refuses(text, 1, b == ';' ? 9 : 8);
            }
        }
    }

    private static void bytesBehindASign() {
        for (int b = 0; b < 256; b++) {
            String text = "if row=" + (char) b + "1:wait;";
            if (blank(b) || digit(b)) {
                takes(text, 1);
            } else {
                refuses(text, 1, 7);
            }
        }
    }

    private static void wordsAsLongAsTheyGo() {
        takes("if row=1or row=2and row=3:wait;", 1);
        takes("if(row=1)or(row=2)and not(row=3):wait;", 1);
        takes("call1;", 1);
        refuses("calla1;", 1, 0);
        refuses("ifrow=1:wait;", 1, 0);
        refuses("if row=1orrow=2:wait;", 1, 8);
        refuses("if notrow=1:wait;", 1, 3);
        refuses("if columnn=1:wait;", 1, 3);
        refuses("if colum=1:wait;", 1, 3);
        refuses("wai t;", 1, 0);
        refuses("w;", 1, 0);
    }

    private static void numbersOfOneToFourDigits() {
        String[] texts = {"0", "9", "00", "99", "000", "999", "0000", "0001", "9999"};
        for (String number : texts) {
            Run x = Scenes.row(2);
            x.ship(0, NONE, 0, 0);
            x.ship(0, NONE, 0, 1);
            c.takes(x, 0, "call " + number + ";", 1);
            c.takes(x, 1, "if told=" + number + ":wait;", 1);
            x.call(1, 5);
            x.hours(1);
            c.same("told " + number, x.tell(1, 5), Integer.parseInt(number));
            c.same("seen " + number, x.tell(1, 7), 0);
        }
    }

    private static void numbersOfFiveDigitsAndMore() {
        for (String number : new String[] {"00000", "00001", "10000", "99999", "123456", "4294967296", "1".repeat(300)}) {
            refuses("call " + number + ";", 1, 5);
            refuses("if told<" + number + ":wait;", 1, 8);
            refuses(number, 1, 0);
        }
        refuses("call 1234 5;", 1, 10);
        refuses("if told=1 2:wait;", 1, 10);
    }

    private static void signsOneByteEach() {
        refuses("if row<>1:wait;", 1, 7);
        refuses("if row>=1:wait;", 1, 7);
        refuses("if row==1:wait;", 1, 7);
        refuses("if row=1::wait;", 1, 9);
        refuses("wait;;", 1, 5);
        takes("if((row=1)):wait;", 1);
    }

    // The faults of the Terms.

    /** Wherever a text is cut between two tokens, and is not whole there, the end is its fault. */
    private static void theEndInEveryPlace() {
        String[] tokens = {"if", " ", "not", " ", "(", "row", "<", "12", "or", " ", "told", "=", "0", "and", " ", "fuel",
            ">", "3", ")", ":", "call", " ", "77", ";", "\n", "north", ";"};
        StringBuilder text = new StringBuilder();
        for (String token : tokens) {
            text.append(token);
            String all = text.toString();
            if (all.trim().endsWith(";")) {
                takes(all, all.endsWith("north;") ? 2 : 1);
            } else {
                refuses(all, 1, all.length());
                refuses(all + " \n ", 1, all.length() + 3);
            }
        }
    }

    /** Every token behind every kind of beginning: it goes on with it, or it is the fault, at its first byte. */
    private static void tokensInEveryPlace() {
        String whats = " hour level ridge fuel held near row column north east south west told ";
        String acts = " north east south west wait cut call ";
        String[][] places = {
            {"", acts + "if "}, {"wait;", acts + "if "}, {"if row=1:", acts},
            {"if", whats + "not ( "}, {"if(", whats + "not ( "}, {"if not", whats + "( "}, {"if not(", whats + "not ( "},
            {"if row=1 or", whats + "not ( "}, {"if row=1 and", whats + "not ( "}, {"if row=1 and not", whats + "( "},
            {"if row", " = < > "}, {"if row=", " 1 "}, {"if row<", " 1 "}, {"if row>", " 1 "},
            {"if row=1", " or and : "}, {"if not row=1", " or and : "}, {"if(row=1", " or and ) "},
            {"if(row=1)", " or and : "}, {"if((row=1)", " or and ) "}, {"if(row=1 or row=2", " or and ) "},
            {"wait", " ; "}, {"call", " 1 "}, {"call 1", " ; "}, {"if row=1:call", " 1 "}, {"if row=1:cut", " ; "},
        };
        String tokens = whats + "wait cut call if or and not ( ) : ; = < > 1";
        for (String[] place : places) {
            for (String token : tokens.trim().split(" ")) {
                boolean goesOn = place[1].contains(" " + token + " ");
                String text = place[0] + " " + token + " ";
                refuses(text + "$", 1, goesOn ? text.length() : place[0].length() + 1);
            }
        }
    }

    /** No letter of a word may be another one. */
    private static void wordsLetterByLetter() {
        String words = "hour level ridge fuel held near row column north east south west told wait cut call if or and not";
        for (String word : words.split(" ")) {
            for (int k = 0; k < word.length(); k++) {
                char other = word.charAt(k) == 'z' ? 'a' : (char) (word.charAt(k) + 1);
                String wrong = word.substring(0, k) + other + word.substring(k + 1);
                refuses(wrong + " $", 1, 0);
                refuses("if " + wrong + " $", 1, 3);
                refuses("if row=1 " + wrong + " $", 1, 9);
            }
        }
    }

    /** Nothing of an earlier text is left, though it was longer. */
    private static void ordersBehindOthers() {
        Run x = oneShip();
        c.takes(x, 0, "if row=1:wait;".repeat(20), 20);
        c.takes(x, 0, "wait;", 1);
        x.hours(1);
        c.same("the line holds", x.tell(0, 7), 0);
        c.refuses(x, 0, "if row=1:cut;if row=1:cut;go;", 1, 26);
        c.takes(x, 0, "wait;if row=0:cut;", 2);
        x.hours(1);
        c.same("the line holds behind a fault too", x.tell(0, 7), 0);
    }

    private static String open(int pairs, String inside) {
        return "(".repeat(pairs) + inside + ")".repeat(pairs);
    }

    private static void eightOpen() {
        takes("if " + open(7, "row=1") + ":wait;", 1);
        takes("if " + open(7, "row=1") + "and" + open(7, "row=2") + "or not" + open(7, "row=3") + ":wait;", 1);
        takes("if not(not(not(not(not(not(not(row=1))))))):wait;", 1);
        takes("if " + open(6, "(row=1)and(row=2)or not(row=3)") + ":wait;", 1);
        takes(("if " + open(7, "row=1") + ":cut;").repeat(14), 14);
    }

    private static void aNinthOpen() {
        refuses("if " + open(8, "row=1") + ":wait;", 1, 11);
        refuses("if " + open(8, " \n row=1") + ":wait;", 1, 14);
        refuses("if " + open(8, "not row=1") + ":wait;", 1, 11);
        refuses("if " + open(9, "row=1") + ":wait;", 1, 11);
        refuses("if " + open(8, "$") + ":wait;", 1, 11);
        refuses("if " + open(8, "") + ":wait;", 1, 11);
        refuses("if " + "(".repeat(8), 1, 11);
        refuses("if " + "(".repeat(8) + "  ", 1, 13);
        refuses("if " + open(7, "row=1 and(row=2)") + ":wait;", 1, 20);
        refuses("if " + open(7, "row=1 or not( row=2)") + ":wait;", 1, 24);
        refuses("if " + open(7, "row=1") + "and" + open(8, "row=2") + ":wait;", 1, 33);
        refuses("if " + "(".repeat(397), 1, 11);
        refuses("if " + "not(".repeat(99), 1, 35);
    }

    private static void twentyLines() {
        takes("cut;".repeat(19), 19);
        takes("cut;".repeat(20), 20);
        takes("cut;".repeat(20) + " \n", 20);
        takes("call 1234 ; \n".repeat(20), 20);
    }

    private static void aTwentyFirstLine() {
        refuses("cut;".repeat(21), 2, 80);
        refuses("cut;".repeat(22), 2, 80);
        refuses("cut;".repeat(100), 2, 80);
        refuses("cut;".repeat(20) + " \n wait;", 2, 83);
        refuses("cut;".repeat(20) + "if row=1:cut;", 2, 80);
        refuses("cut;".repeat(20) + "call 1;cut;", 2, 80);
    }

    private static void aFaultGoesBeforeTheTwentyFirstLine() {
        refuses("cut;".repeat(20) + "go;", 1, 80);
        refuses("cut;".repeat(20) + "cut", 1, 83);
        refuses("cut;".repeat(20) + "if row=1:cut", 1, 92);
        refuses("cut;".repeat(21) + "go;", 1, 84);
        refuses("cut;".repeat(20) + "if " + open(8, "row=1") + ":cut;", 1, 91);
        refuses("cut;".repeat(99) + "cut ", 1, 400);
        refuses("go;" + "cut;".repeat(21), 1, 0);
    }
}
