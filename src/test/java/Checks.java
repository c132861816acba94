import java.nio.charset.StandardCharsets;
import java.util.function.Predicate;
import java.util.function.ToIntFunction;

/** What every test uses: a count of wrong answers, and ways to write the calls shortly. */
final class Checks {
    private static final int LONGEST_SECONDS = 120;

    private int wrong = 0;
    private int asked = 0;

    Checks() {
        Thread watch = new Thread(Checks::endAtLast);
        watch.setDaemon(true);
        watch.start();
    }

    /** A call that never ends is a wrong answer, too. */
    private static void endAtLast() {
        try {
            Thread.sleep(LONGEST_SECONDS * 1000L);
        } catch (InterruptedException e) {
            Thread.currentThread().interrupt();
        }
        System.out.println("no end in " + LONGEST_SECONDS + " seconds");
        Runtime.getRuntime().halt(1);
    }

    void same(String call, long got, long want) {
        asked++;
        if (got != want) {
            wrong++;
            System.out.println(call + " answered " + got + ", due is " + want);
        }
    }

    void yes(String call, boolean got) {
        same(call, got ? 1 : 0, 1);
    }

    void no(String call, boolean got) {
        same(call, got ? 1 : 0, 0);
    }

    /** Here the object that is behind this call is looked at, not its answer. */
    void told(String call, Run got, Run want) {
        yes(call + " leaves all else as it was", got.told().equals(want.told()));
    }

    void finish(String name) {
        System.out.println(name + ": " + asked + " answers, " + wrong + " wrong");
        if (wrong != 0 || asked == 0) {
            System.exit(1);
        }
    }

    /** The numbers next to these bounds that are not within them, and the smallest and the largest of all. */
    static int[] outside(int least, int most) {
        return new int[] {Integer.MIN_VALUE, least - 1, most + 1, Integer.MAX_VALUE};
    }

    static String say(String name, int... numbers) {
        StringBuilder call = new StringBuilder(name);
        String between = "(";
        for (int number : numbers) {
            call.append(between).append(number);
            between = ", ";
        }
        return call.append(')').toString();
    }

    /** A call that is to be carried out, with this answer. The object itself stays; the one behind the call is given. */
    Run taken(Run x, String call, int answer, ToIntFunction<Run> made) {
        Run behind = x.fork();
        same(call, made.applyAsInt(behind), answer);
        return behind;
    }

    Run taken(Run x, String call, Predicate<Run> made) {
        return taken(x, call, 1, r -> made.test(r) ? 1 : 0);
    }

    /** A call that is to be refused, with this answer, and that leaves everything as it was. */
    void refused(Run x, String call, int answer, ToIntFunction<Run> made) {
        told(call, taken(x, call, answer, made), x);
    }

    void refused(Run x, String call, Predicate<Run> made) {
        refused(x, call, 0, r -> made.test(r) ? 1 : 0);
    }

    /** What cell() tells of a cell, from what 0 on. */
    void cell(String name, Run x, int row, int column, int... due) {
        for (int what = 0; what < due.length; what++) {
            same(name + ": " + say("cell", row, column, what), x.cell(row, column, what), due[what]);
        }
    }

    /** What tell() tells of a ship, from what 0 on. */
    void ship(String name, Run x, int ship, int... due) {
        for (int what = 0; what < due.length; what++) {
            same(name + ": " + say("tell", ship, what), x.tell(ship, what), due[what]);
        }
    }

    /** What count() tells, from what 0 on. */
    void counts(String name, Run x, int... due) {
        for (int what = 0; what < due.length; what++) {
            same(name + ": " + say("count", what), x.count(what), due[what]);
        }
    }

    /** A text's bytes, four to a number, in rows of five numbers with 0 behind its end. */
    static int[] numbers(String text) {
        byte[] bytes = text.getBytes(StandardCharsets.ISO_8859_1);
        int[] numbers = new int[(bytes.length + 19) / 20 * 5];
        for (int k = 0; k < bytes.length; k++) {
            numbers[k / 4] |= (bytes[k] & 255) << 24 - k % 4 * 8;
        }
        return numbers;
    }

    /** Puts a text on an empty tape. */
    static void feed(Run x, String text) {
        if (text.length() > 400) {
            throw new IllegalArgumentException("a test's text is longer than a tape");
        }
        int[] n = numbers(text);
        for (int k = 0; k < n.length; k += 5) {
            x.feed(n[k], n[k + 1], n[k + 2], n[k + 3], n[k + 4]);
        }
        x.end(text.length());
    }

    static int orders(Run x, int ship, String text) {
        feed(x, text);
        return x.orders(ship);
    }

    /** A text that has to be taken, so many lines long. */
    void takes(Run x, int ship, String text, int lines) {
        same("orders of \"" + text + "\"", orders(x, ship, text), lines);
        same("fault(0) of \"" + text + "\"", x.fault(0), 0);
        same("fault(1) of \"" + text + "\"", x.fault(1), IcePilots.NONE);
    }

    /** A text that has to be refused. */
    void refuses(Run x, int ship, String text, int fault, int place) {
        same("orders of \"" + text + "\"", orders(x, ship, text), IcePilots.NONE);
        same("fault(0) of \"" + text + "\"", x.fault(0), fault);
        same("fault(1) of \"" + text + "\"", x.fault(1), place);
    }
}
