import java.util.function.ToIntFunction;

/** All that an object tells now, would tell later, and would tell of its images, as one text to be compared. */
final class Told {
    private static final int NO_IMAGE = -1;
    private static final int LAST_HOUR = 1000;

    private final Run run;
    private final StringBuilder text = new StringBuilder();
    private int image = NO_IMAGE;
    private Run asked;

    private Told(Run run) {
        this.run = run;
    }

    /** Without the images. */
    static String now(Run run) {
        Told told = new Told(run);
        told.all();
        return told.text.toString();
    }

    static String of(Run run) {
        Told told = new Told(run);
        told.all();
        for (int k = 0; k < 3; k++) {
            told.text.append("image ").append(k).append('\n');
            if (run.fork().again(k)) {
                told.image = k;
                told.all();
            }
        }
        return told.text.toString();
    }

    private Run fork() {
        Run one = run.fork();
        if (image != NO_IMAGE) {
            one.again(image);
        }
        return one;
    }

    private void all() {
        asked = fork();
        counts();
        cells();
        ships();
        convoy();
        tape();
        hoursToCome();
    }

    /** For questions that change nothing: a new fork goes on where the one before has no calls left. */
    private void ask(ToIntFunction<Run> question) {
        if (asked.callsLeft() == 0) {
            asked = fork();
        }
        write(question.applyAsInt(asked));
    }

    private void write(int number) {
        text.append(number).append(',');
    }

    private void counts() {
        for (int k = 0; k <= 9; k++) {
            int what = k;
            ask(x -> x.count(what));
        }
        ask(x -> x.fault(0));
        ask(x -> x.fault(1));
        text.append('\n');
    }

    private void cells() {
        int rows = fork().count(0);
        int columns = fork().count(1);
        for (int cell = 0; cell < rows * columns; cell++) {
            int row = cell / columns;
            int column = cell % columns;
            for (int k = 0; k <= 6; k++) {
                int what = k;
                ask(x -> x.cell(row, column, what));
            }
        }
        text.append('\n');
    }

    private void ships() {
        int ships = fork().count(2);
        for (int k = 0; k < ships; k++) {
            int ship = k;
            for (int j = 0; j <= 9; j++) {
                int what = j;
                ask(x -> x.tell(ship, what));
            }
            ask(x -> x.ahead(3, ship, 3));
        }
        text.append('\n');
    }

    private void convoy() {
        for (int k = 0; k < 6; k++) {
            int at = k;
            ask(x -> x.turn(at));
        }
        int[] orders = {0, 01, 010, 0210, 03210, 043210, 0543210, 0012345, 001234, 00123, 0012};
        for (int order : orders) {
            ask(x -> x.cost(order, 1));
            ask(x -> x.cost(order, 2));
        }
        text.append('\n');
    }

    /** How long the tape is, and what its bytes are as orders. */
    private void tape() {
        Run x = fork();
        int length = x.feed(0, 0, 0, 0, 0);
        for (int n = 400; n > 380 && length == IcePilots.NONE; n--) {
            length = x.end(n);
        }
        write(length);
        Run y = fork();
        write(y.orders(0));
        write(y.fault(0));
        write(y.fault(1));
        text.append('\n');
    }

    /** To the last hour, so that weather which was changed shows by the ice. */
    private void hoursToCome() {
        Run x = fork();
        int hour = fork().count(3);
        for (int k = 0; k < 80 && hour < LAST_HOUR; k++) {
            if (x.callsLeft() < 6) {
                x = forkAt(hour);
            }
            hour = x.hours(Math.min(k < 9 ? 1 : 20, LAST_HOUR - hour));
            write(x.count(4));
            write(x.count(5));
            write(x.tell(k % 8, 2));
            write(x.tell(k % 8, 3));
            write(x.tell(k % 8, 5));
        }
        text.append('\n');
    }

    private Run forkAt(int hour) {
        Run x = fork();
        int then = fork().count(3);
        for (int k = 0; k < 10 && then < hour; k++) {
            then = x.hours(Math.min(100, hour - then));
        }
        return x;
    }
}
