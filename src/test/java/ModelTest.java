import java.nio.charset.StandardCharsets;
import java.util.Random;

/** All promises: random runs of calls, each answer held against the one of the plainer Model. */
public final class ModelTest {
    private static final int RUNS = 700;
    private static final int MOST_CALLS_OF_A_STEP = 30;
    private static final String[] WHATS = {"hour", "level", "ridge", "fuel", "held", "near", "row", "column",
        "north", "east", "south", "west", "told"};
    private static final String[] ACTS = {"north", "east", "south", "west", "north", "east", "south", "west",
        "wait", "cut", "cut"};
    private static final String[] SPOILERS = {"", ";", ":", "(", ")", "=", "<", ">", "not ", " and ", " or ", "if ",
        "north", "hour", "12345", "7", "wait", "call ", "$", "Q", "x", "\t", "\n", " ", "\u00e9"};
    private static final Checks c = new Checks();

    private final Random random;
    private final Run x = new Run();
    private final Model m = new Model();
    private String latest = "";

    private ModelTest(int seed) {
        random = new Random(seed);
    }

    public static void main(String[] args) {
        for (int seed = 0; seed < RUNS; seed++) {
            ModelTest test = new ModelTest(seed);
            for (int k = 0; test.x.callsLeft() >= MOST_CALLS_OF_A_STEP; k++) {
                test.step(seed, k);
            }
            test.useUp(seed);
        }
        c.finish("ModelTest");
    }

    /** To the 512th call. */
    private void useUp(int seed) {
        latest = "";
        for (int k = 500; x.callsLeft() > 1; k++) {
            ask(seed, k, 63 + random.nextInt(33));
        }
        is(seed, 512, "hours", x.hours(1), m.hours(1));
    }

    private void is(int seed, int k, String call, long got, long want) {
        c.same("run " + seed + ", call " + k + ": " + call + " " + latest, got, want);
    }

    private void is(int seed, int k, String call, boolean got, boolean want) {
        is(seed, k, call, got ? 1 : 0, want ? 1 : 0);
    }

    /** Mostly within the bounds, now and then at them or beyond. */
    private int near(int least, int most) {
        switch (random.nextInt(24)) {
            case 0: return least - 1;
            case 1: return most + 1;
            case 2: return least;
            case 3: return most;
            case 4: return random.nextInt(8) == 0 ? random.nextInt() : least;
            default: return least + random.nextInt(most - least + 1);
        }
    }

    private int rowNear() {
        return near(0, m.s.rows - 1);
    }

    private int columnNear() {
        return near(0, m.s.columns - 1);
    }

    private int shipNear() {
        return near(0, Math.max(0, m.s.ships.size() - 1));
    }

    private void step(int seed, int k) {
        latest = "";
        if (k == 0) {
            int rows = 1 + random.nextInt(8);
            int columns = 1 + random.nextInt(8);
            is(seed, k, "gulf", x.gulf(rows, columns), m.gulf(rows, columns));
            return;
        }
        int pick = random.nextInt(100);
        if (pick < 45) {
            change(seed, k, pick);
        } else if (pick < 55) {
            text(seed, k);
        } else if (pick < 63) {
            convoy(seed, k, pick);
        } else {
            ask(seed, k, pick);
        }
    }

    private void change(int seed, int k, int pick) {
        int r = rowNear();
        int cl = columnNear();
        if (pick < 1) {
            int rows = near(1, 8);
            int columns = near(1, 8);
            boolean rare = random.nextInt(4) == 0;
            is(seed, k, "gulf", rare && x.gulf(rows, columns), rare && m.gulf(rows, columns));
        } else if (pick < 5) {
            boolean is = random.nextInt(3) > 0;
            is(seed, k, "land", x.land(r, cl, is), m.land(r, cl, is));
        } else if (pick < 14) {
            int level = near(0, 100);
            int ridged = random.nextBoolean() ? 0 : near(0, 100);
            boolean fast = random.nextInt(3) == 0;
            is(seed, k, "ice", x.ice(r, cl, level, ridged, fast), m.ice(r, cl, level, ridged, fast));
        } else if (pick < 21) {
            int from = near(m.s.hour, Math.min(999, m.s.hour + 9));
            int n = random.nextInt(30) == 0 ? near(1, 1000) : near(1, 20);
            int cold = near(-40, 40);
            int way = near(0, 3);
            int force = random.nextInt(3) == 0 ? 0 : near(0, 50);
            is(seed, k, "weather", x.weather(from, n, cold, way, force), m.weather(from, n, cold, way, force));
        } else if (pick < 28) {
            int strength = near(0, 200);
            int fuel = random.nextBoolean() ? -1 : near(1, random.nextBoolean() ? 30 : 5000);
            is(seed, k, "ship", x.ship(strength, fuel, r, cl), m.ship(strength, fuel, r, cl));
        } else if (pick < 31) {
            int ship = shipNear();
            int number = near(0, random.nextBoolean() ? 3 : 9999);
            is(seed, k, "call", x.call(ship, number), m.call(ship, number));
        } else if (pick < 42) {
            int n = random.nextInt(12) == 0 ? near(1, 100) : near(1, 4);
            is(seed, k, "hours", x.hours(n), m.hours(n));
        } else {
            int i = near(0, 2);
            boolean keep = random.nextBoolean();
            is(seed, k, "image or again", keep ? x.image(i) : x.again(i), keep ? m.image(i) : m.again(i));
        }
    }

    private void convoy(int seed, int k, int pick) {
        int breakers = near(1, 2);
        if (pick < 58) {
            int from = random.nextBoolean() ? near(0, 20) : near(0, 1000);
            int hours = random.nextBoolean() ? near(1, 5) : near(1, 100);
            int worth = random.nextBoolean() ? near(1, 3) : near(1, 100);
            is(seed, k, "passage", x.passage(from, hours, worth), m.passage(from, hours, worth));
        } else if (pick < 59) {
            if (random.nextInt(3) == 0) {
                x.clear();
                m.clear();
            }
        } else if (pick < 60) {
            is(seed, k, "turns", x.turns(breakers), m.turns(breakers));
        } else {
            int order = orderNear();
            is(seed, k, "cost(" + order + ")", x.cost(order, breakers), m.cost(order, breakers));
        }
    }

    private int orderNear() {
        int[] p = {0, 1, 2, 3, 4, 5};
        int n = m.s.passages.size();
        int order = 0;
        for (int k = 5; k >= 0; k--) {
            int with = k < n ? random.nextInt(k + 1) : k;
            int kept = p[k];
            p[k] = p[with];
            p[with] = kept;
        }
        for (int k = 0; k < 6; k++) {
            order |= p[k] << 3 * k;
        }
        if (random.nextInt(4) == 0) {
            order = order & (1 << 3 * n) - 1 | random.nextInt() << 3 * n;
        }
        return random.nextInt(5) == 0 ? near(0, 0777777) : order;
    }

    private void ask(int seed, int k, int pick) {
        int r = rowNear();
        int cl = columnNear();
        int ship = shipNear();
        if (pick < 75) {
            int what = near(0, 6);
            is(seed, k, "cell " + what, x.cell(r, cl, what), m.cell(r, cl, what));
        } else if (pick < 86) {
            int what = near(0, 9);
            is(seed, k, "tell " + what, x.tell(ship, what), m.tell(ship, what));
        } else if (pick < 92) {
            int what = near(0, 9);
            is(seed, k, "count " + what, x.count(what), m.count(what));
        } else if (pick < 96) {
            int n = random.nextInt(6) == 0 ? near(1, 100) : near(1, 9);
            int what = near(0, 5);
            is(seed, k, "ahead " + what, x.ahead(n, ship, what), m.ahead(n, ship, what));
        } else {
            int what = near(0, 5);
            is(seed, k, "turn " + what, x.turn(what), m.turn(what));
            is(seed, k, "fault " + what, x.fault(what), m.fault(what));
        }
    }

    private void text(int seed, int k) {
        latest = randomText();
        if (random.nextInt(3) == 0) {
            spoil();
        }
        byte[] bytes = latest.getBytes(StandardCharsets.ISO_8859_1);
        int before = m.s.tape.length();
        for (int from = 0; from < bytes.length; from += 20) {
            int[] n = new int[5];
            for (int b = 0; b < 20; b++) {
                n[b / 4] = n[b / 4] << 8 | (from + b < bytes.length ? bytes[from + b] & 255 : 0);
            }
            is(seed, k, "feed", x.feed(n[0], n[1], n[2], n[3], n[4]), m.feed(n));
        }
        int end = random.nextInt(20) == 0 ? near(0, 400) : before + bytes.length;
        is(seed, k, "end", x.end(end), m.end(end));
        int ship = shipNear();
        is(seed, k, "orders", x.orders(ship), m.orders(ship));
        is(seed, k, "fault(0)", x.fault(0), m.fault(0));
        is(seed, k, "fault(1)", x.fault(1), m.fault(1));
        if (random.nextInt(4) > 0) {
            is(seed, k, "end(0)", x.end(0), m.end(0));
        }
    }

    private String randomText() {
        StringBuilder text = new StringBuilder();
        int lines = random.nextInt(30) == 0 ? 18 + random.nextInt(5) : random.nextInt(5);
        for (int k = 0; k < lines; k++) {
            if (random.nextInt(5) > 0 && lines < 18) {
                text.append("if ").append(term(1 + random.nextInt(3))).append(':');
            }
            text.append(random.nextInt(8) == 0 ? "call " + random.nextInt(4) : ACTS[random.nextInt(ACTS.length)]);
            text.append(random.nextInt(6) == 0 ? "; \n" : ";");
        }
        if (random.nextInt(25) == 0) {
            int pairs = 5 + random.nextInt(5);
            text.append("if ").append("(".repeat(pairs)).append("row=1").append(")".repeat(pairs)).append(":cut;");
        }
        return text.length() > 400 ? text.substring(0, 400) : text.toString();
    }

    private String term(int depth) {
        StringBuilder term = new StringBuilder();
        int parts = 1 + random.nextInt(3);
        for (int k = 0; k < parts; k++) {
            term.append(k == 0 ? "" : random.nextBoolean() ? " and " : " or ");
            term.append(random.nextInt(4) == 0 ? "not " : "");
            if (depth > 1 && random.nextInt(3) == 0) {
                term.append('(').append(term(depth - 1)).append(')');
            } else {
                term.append(comparison());
            }
        }
        return term.toString();
    }

    private String comparison() {
        int what = random.nextInt(WHATS.length);
        int[] most = {20, 100, 30, 30, 2, 3, 8, 8, 100, 100, 100, 100, 4};
        String number = String.valueOf(random.nextInt(most[what]));
        if (random.nextInt(9) == 0) {
            number = random.nextBoolean() ? "999" : "0" + number;
        }
        return WHATS[what] + "=<>".charAt(random.nextInt(3)) + number;
    }

    private void spoil() {
        int at = random.nextInt(latest.length() + 1);
        int to = Math.min(latest.length(), at + random.nextInt(4));
        latest = latest.substring(0, at) + SPOILERS[random.nextInt(SPOILERS.length)] + latest.substring(to);
        latest = latest.length() > 400 ? latest.substring(0, 400) : latest;
    }
}
