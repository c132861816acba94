import java.nio.charset.StandardCharsets;

/** What every test uses: a count of wrong answers, and ways to write the calls shortly. */
final class Checks {
    private int wrong = 0;
    private int asked = 0;

    void same(String call, long got, long want) {
        asked++;
        if (got != want) {
            wrong++;
            System.out.println(call + " answered " + got + ", due is " + want);
        }
    }

    void yes(String call, boolean got) {
        same(call, got ? 1 : 0, 1);
    }

    void no(String call, boolean got) {
        same(call, got ? 1 : 0, 0);
    }

    void finish(String name) {
        System.out.println(name + ": " + asked + " answers, " + wrong + " wrong");
        if (wrong != 0 || asked == 0) {
            System.exit(1);
        }
    }

    /** Puts a text on an empty tape. */
    static void feed(IcePilots x, String text) {
        byte[] bytes = text.getBytes(StandardCharsets.ISO_8859_1);
        for (int from = 0; from < bytes.length; from += 20) {
            int[] n = new int[5];
            for (int k = 0; k < 20; k++) {
                int b = from + k < bytes.length ? bytes[from + k] & 255 : 0;
                n[k / 4] = n[k / 4] << 8 | b;
            }
            x.feed(n[0], n[1], n[2], n[3], n[4]);
        }
        x.end(bytes.length);
    }

    static int orders(IcePilots x, int ship, String text) {
        feed(x, text);
        return x.orders(ship);
    }

    /** A text that has to be taken, so many lines long. */
    void takes(IcePilots x, int ship, String text, int lines) {
        same("orders of \"" + text + "\"", orders(x, ship, text), lines);
        same("fault(0) of \"" + text + "\"", x.fault(0), 0);
        same("fault(1) of \"" + text + "\"", x.fault(1), IcePilots.NONE);
    }

    /** A text that has to be refused. */
    void refuses(IcePilots x, int ship, String text, int fault, int place) {
        same("orders of \"" + text + "\"", orders(x, ship, text), IcePilots.NONE);
        same("fault(0) of \"" + text + "\"", x.fault(0), fault);
        same("fault(1) of \"" + text + "\"", x.fault(1), place);
    }

    /** Every answer that a call gives without changing anything, as one text. */
    static String all(IcePilots x) {
        StringBuilder told = new StringBuilder();
        for (int what = -1; what <= 10; what++) {
            told.append(x.count(what)).append(',');
        }
        for (int row = -1; row <= x.count(0); row++) {
            for (int column = -1; column <= x.count(1); column++) {
                for (int what = -1; what <= 7; what++) {
                    told.append(x.cell(row, column, what)).append(',');
                }
            }
        }
        for (int ship = -1; ship <= x.count(2); ship++) {
            for (int what = -1; what <= 10; what++) {
                told.append(x.tell(ship, what)).append(',');
            }
        }
        for (int k = -1; k <= 6; k++) {
            told.append(x.turn(k)).append(',');
        }
        for (int n = 1; n <= 40; n += 13) {
            for (int what = 0; what <= 5; what++) {
                told.append(x.ahead(n, 0, what)).append(',');
            }
        }
        told.append(x.fault(0)).append(',').append(x.fault(1)).append(',');
        told.append(x.cost(0222210, 1)).append(',').append(x.cost(0543210, 2));
        return told.toString();
    }
}
