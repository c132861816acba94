import java.util.ArrayList;
import java.util.Arrays;
import java.util.HashMap;
import java.util.List;
import java.util.Map;
import java.util.regex.Matcher;
import java.util.regex.Pattern;

/** The document once more, written another way and without a thought of speed, to hold the program against. */
final class Model {
    static final class Cell {
        boolean land;
        boolean fast;
        int level;
        int ridged;
        int channel = -1;
        int came;

        Cell copy() {
            Cell c = new Cell();
            c.land = land;
            c.fast = fast;
            c.level = level;
            c.ridged = ridged;
            c.channel = channel;
            return c;
        }
    }

    static final class Ship {
        int strength;
        int fuel;
        int row;
        int column;
        int told;
        int moved;
        int line = -1;
        int done;
        List<List<String>> orders = new ArrayList<>();

        Ship copy() {
            Ship s = new Ship();
            s.strength = strength;
            s.fuel = fuel;
            s.row = row;
            s.column = column;
            s.told = told;
            s.moved = moved;
            s.line = line;
            s.done = done;
            s.orders = orders;
            return s;
        }
    }

    static final class State {
        int rows = 1;
        int columns = 1;
        Map<Integer, Cell> cells = new HashMap<>();
        List<Ship> ships = new ArrayList<>();
        int[][] weather = new int[1000][3];
        int hour;
        int laid;
        int grown;
        int melted;
        String tape = "";
        int fault;
        int place = -1;
        List<int[]> passages = new ArrayList<>();
        List<Integer> order = new ArrayList<>();

        State copy() {
            State s = new State();
            s.rows = rows;
            s.columns = columns;
            cells.forEach((k, v) -> s.cells.put(k, v.copy()));
            ships.forEach(v -> s.ships.add(v.copy()));
            for (int k = 0; k < 1000; k++) {
                s.weather[k] = weather[k].clone();
            }
            s.hour = hour;
            s.laid = laid;
            s.grown = grown;
            s.melted = melted;
            s.tape = tape;
            s.fault = fault;
            s.place = place;
            s.passages = new ArrayList<>(passages);
            s.order = new ArrayList<>(order);
            return s;
        }
    }

    private static final String[] WAYS = {"north", "east", "south", "west"};
    private static final int[][] STEPS = {{-1, 0}, {0, 1}, {1, 0}, {0, -1}};

    State s = new State();
    private final State[] images = new State[3];

    Model() {
        gulf(1, 1);
    }

    private Cell at(int row, int column) {
        return row < 0 || row > 7 || column < 0 || column > 7 ? null : s.cells.get(row * 100 + column);
    }

    private Ship shipAt(int row, int column) {
        for (Ship ship : s.ships) {
            if (ship.row == row && ship.column == column) {
                return ship;
            }
        }
        return null;
    }

    boolean gulf(int rows, int columns) {
        if (rows < 1 || rows > 8 || columns < 1 || columns > 8) {
            return false;
        }
        State old = s;
        s = new State();
        s.rows = rows;
        s.columns = columns;
        for (int r = 0; r < rows; r++) {
            for (int c = 0; c < columns; c++) {
                s.cells.put(r * 100 + c, new Cell());
            }
        }
        s.tape = old.tape;
        s.fault = old.fault;
        s.place = old.place;
        s.passages = old.passages;
        s.order = old.order;
        return true;
    }

    boolean land(int row, int column, boolean is) {
        Cell cell = at(row, column);
        if (cell == null || cell.land == is || shipAt(row, column) != null) {
            return false;
        }
        s.laid -= cell.level + cell.ridged;
        Cell fresh = new Cell();
        fresh.land = is;
        s.cells.put(row * 100 + column, fresh);
        return true;
    }

    boolean ice(int row, int column, int level, int ridged, boolean fast) {
        Cell cell = at(row, column);
        if (cell == null || cell.land || level < 0 || level > 100 || ridged < 0 || ridged > 100) {
            return false;
        }
        s.laid += level + ridged - (cell.level + cell.ridged);
        Cell fresh = new Cell();
        fresh.level = level;
        fresh.ridged = ridged;
        fresh.fast = fast;
        s.cells.put(row * 100 + column, fresh);
        return true;
    }

    boolean weather(int from, int n, int cold, int way, int force) {
        if (n < 1 || n > 1000 || from < s.hour || (long) from + n > 1000) {
            return false;
        }
        if (Math.abs((long) cold) > 40 || way < 0 || way > 3 || force < 0 || force > 50) {
            return false;
        }
        for (int h = from; h < from + n; h++) {
            s.weather[h] = new int[] {cold, way, force};
        }
        return true;
    }

    int ship(int strength, int fuel, int row, int column) {
        boolean numbers = strength >= 0 && strength <= 200 && (fuel == -1 || fuel >= 1 && fuel <= 5000);
        Cell cell = at(row, column);
        if (!numbers || s.ships.size() == 8 || cell == null || cell.land || shipAt(row, column) != null) {
            return -1;
        }
        Ship ship = new Ship();
        ship.strength = strength;
        ship.fuel = fuel;
        ship.row = row;
        ship.column = column;
        s.ships.add(ship);
        return s.ships.size() - 1;
    }

    int feed(int... numbers) {
        if (s.tape.length() + 20 > 400) {
            return -1;
        }
        StringBuilder more = new StringBuilder(s.tape);
        for (int n : numbers) {
            for (int k = 3; k >= 0; k--) {
                more.append((char) (n >> 8 * k & 255));
            }
        }
        s.tape = more.toString();
        return s.tape.length();
    }

    int end(int n) {
        if (n < 0 || n > s.tape.length()) {
            return -1;
        }
        s.tape = s.tape.substring(0, n);
        return n;
    }

    /** A machine of states reads the tokens: no recursion, a count of open brackets alone. */
    int orders(int ship) {
        if (ship < 0 || ship >= s.ships.size()) {
            return -2;
        }
        String text = s.tape;
        s.tape = "";
        List<List<String>> lines = new ArrayList<>();
        List<Integer> begins = new ArrayList<>();
        Matcher token = Pattern.compile("[ \\n]*(?:([a-z]+|[0-9]+|[():;=<>])|(\\z)|([\\s\\S]))").matcher(text);
        String state = "line";
        int open = 0;
        List<String> line = new ArrayList<>();
        s.fault = 1;
        while (true) {
            token.find();
            boolean end = token.group(2) != null;
            boolean bad = token.group(3) != null;
            String t = end ? "" : bad ? "?" : token.group(1);
            s.place = end ? text.length() : bad ? token.start(3) : token.start(1);
            if (state.equals("line")) {
                if (end) {
                    break;
                }
                line = new ArrayList<>();
                begins.add(s.place);
            }
            String next = after(state, t, open);
            if (next == null) {
                return -1;
            }
            if (state.equals("line") && t.equals("if")) {
                open = 1;
            }
            open += t.equals("(") ? 1 : t.equals(")") ? -1 : 0;
            if (t.equals(":")) {
                open = 0;
            }
            line.add(t);
            if (t.equals(";")) {
                lines.add(line);
            }
            state = next;
        }
        if (lines.size() > 20) {
            s.fault = 2;
            s.place = begins.get(20);
            return -1;
        }
        s.fault = 0;
        s.place = -1;
        s.ships.get(ship).orders = lines;
        return lines.size();
    }

    private static String after(String state, String t, int open) {
        boolean act = t.matches("north|east|south|west|wait|cut");
        boolean what = t.matches("hour|level|ridge|fuel|held|near|row|column|north|east|south|west|told");
        switch (state) {
            case "line":
                if (t.equals("if")) {
                    return "term";
                }
                return act ? "semicolon" : t.equals("call") ? "called" : null;
            case "act": return act ? "semicolon" : t.equals("call") ? "called" : null;
            case "called": return t.matches("[0-9]{1,4}") ? "semicolon" : null;
            case "semicolon": return t.equals(";") ? "line" : null;
            case "term":
            case "again":
            case "bracket":
                if (state.equals("bracket") && open > 8) {
                    return null;
                }
                return t.equals("not") ? "not" : t.equals("(") ? "bracket" : what ? "sign" : null;
            case "not": return t.equals("(") ? "bracket" : what ? "sign" : null;
            case "sign": return t.matches("[=<>]") ? "number" : null;
            case "number": return t.matches("[0-9]{1,4}") ? "behind" : null;
            case "behind":
                if (t.equals("and") || t.equals("or")) {
                    return "again";
                }
                return t.equals(")") && open > 1 ? "behind" : t.equals(":") && open == 1 ? "act" : null;
            default: throw new IllegalStateException(state);
        }
    }

    int fault(int what) {
        return what == 0 ? s.fault : what == 1 ? s.place : -1;
    }

    boolean call(int ship, int number) {
        if (ship < 0 || ship >= s.ships.size() || number < 0 || number > 9999) {
            return false;
        }
        s.ships.get(ship).told = number;
        return true;
    }

    int hours(int n) {
        if (n < 1 || n > 100 || s.hour + n > 1000) {
            return -1;
        }
        for (int k = 0; k < n; k++) {
            hour();
        }
        return s.hour;
    }

    int ahead(int n, int ship, int what) {
        if (n < 1 || n > 100 || s.hour + n > 1000 || what < 0 || what > 5) {
            return -2;
        }
        if (what < 4 && (ship < 0 || ship >= s.ships.size())) {
            return -2;
        }
        State kept = s.copy();
        hours(n);
        int answer = what > 3 ? count(what) : tell(ship, new int[] {2, 3, 1, 6}[what]);
        answer -= what == 3 ? kept.ships.get(ship).moved : 0;
        s = kept;
        return answer;
    }

    int cell(int row, int column, int what) {
        Cell cell = at(row, column);
        if (cell == null || what < 0 || what > 6) {
            return -1;
        }
        int[] told = {cell.land ? 0 : 1, cell.level, cell.ridged, cell.channel, cell.fast ? 1 : 0,
            burden(cell), s.ships.indexOf(shipAt(row, column))};
        return told[what];
    }

    int tell(int number, int what) {
        if (number < 0 || number >= s.ships.size() || what < 0 || what > 9) {
            return -1;
        }
        Ship ship = s.ships.get(number);
        int[] told = {ship.strength, ship.fuel, ship.row, ship.column, held(ship) ? 1 : 0, ship.told, ship.moved,
            ship.line, ship.done, ship.orders.size()};
        return told[what];
    }

    int count(int what) {
        int level = s.cells.values().stream().mapToInt(c -> c.level).sum();
        int ridged = s.cells.values().stream().mapToInt(c -> c.ridged).sum();
        int[] told = {s.rows, s.columns, s.ships.size(), s.hour, level, ridged, s.laid, s.grown, s.melted,
            s.passages.size()};
        return what < 0 || what > 9 ? -1 : told[what];
    }

    private static int burden(Cell cell) {
        return cell.channel >= 0 ? 0 : cell.level / 2 + cell.ridged;
    }

    private boolean held(Ship ship) {
        if (burden(at(ship.row, ship.column)) <= ship.strength) {
            return false;
        }
        for (int[] step : STEPS) {
            Ship other = shipAt(ship.row + step[0], ship.column + step[1]);
            if (other != null && other.fuel >= 0) {
                return false;
            }
        }
        return true;
    }

    private void hour() {
        for (Ship ship : s.ships) {
            ship.line = -1;
            ship.done = 0;
            for (int k = 0; k < ship.orders.size() && ship.line < 0; k++) {
                List<String> line = ship.orders.get(k);
                int colon = line.indexOf(":");
                if (colon < 0 || term(ship, line.subList(1, colon))) {
                    ship.line = k;
                    ship.done = act(ship, line.subList(colon + 1, line.size() - 1)) ? 1 : 0;
                }
            }
        }
        int cold = s.weather[s.hour][0];
        for (Cell cell : s.cells.values()) {
            cell.came = 0;
            if (!cell.land && cold > 0) {
                int more = (100 - cell.level) * cold / 400;
                cell.level += more;
                s.grown += more;
            }
            if (!cell.land && cold < 0) {
                int less = cell.level * -cold / 400;
                int other = cell.ridged * -cold / 800;
                cell.level -= less;
                cell.ridged -= other;
                s.melted += less + other;
            }
        }
        if (s.weather[s.hour][2] > 0) {
            drift(STEPS[s.weather[s.hour][1]], s.weather[s.hour][2]);
        }
        for (Cell cell : s.cells.values()) {
            if (cell.channel >= 0 && (cell.came > 0 || s.hour >= cell.channel + 7 - Math.max(0, cold) / 10)) {
                cell.channel = -1;
            }
        }
        s.hour++;
    }

    private void drift(int[] step, int force) {
        Map<Cell, Integer> change = new HashMap<>();
        for (int r = 0; r < s.rows; r++) {
            for (int c = 0; c < s.columns; c++) {
                Cell cell = at(r, c);
                Cell there = at(r + step[0], c + step[1]);
                if (!cell.land && !cell.fast && there != null && !there.land) {
                    int sent = cell.level * force / 200;
                    change.merge(cell, -sent, Integer::sum);
                    change.merge(there, sent, Integer::sum);
                    there.came += sent;
                }
            }
        }
        change.forEach((cell, by) -> {
            cell.level += by;
            cell.ridged += Math.max(0, cell.level - 100);
            cell.level = Math.min(cell.level, 100);
        });
    }

    /** Where a word stands outside all brackets, from the last one back. */
    private static int outside(List<String> tokens, String word) {
        int open = 0;
        for (int k = tokens.size() - 1; k >= 0; k--) {
            open += tokens.get(k).equals(")") ? 1 : tokens.get(k).equals("(") ? -1 : 0;
            if (open == 0 && tokens.get(k).equals(word)) {
                return k;
            }
        }
        return -1;
    }

    private boolean term(Ship ship, List<String> t) {
        int or = outside(t, "or");
        if (or >= 0) {
            return term(ship, t.subList(0, or)) | term(ship, t.subList(or + 1, t.size()));
        }
        int and = outside(t, "and");
        if (and >= 0) {
            return term(ship, t.subList(0, and)) & term(ship, t.subList(and + 1, t.size()));
        }
        if (t.get(0).equals("not")) {
            return !term(ship, t.subList(1, t.size()));
        }
        if (t.get(0).equals("(")) {
            return term(ship, t.subList(1, t.size() - 1));
        }
        int seen = see(ship, t.get(0));
        int number = Integer.parseInt(t.get(2));
        return t.get(1).equals("=") ? seen == number : t.get(1).equals("<") ? seen < number : seen > number;
    }

    private int see(Ship ship, String what) {
        Cell cell = at(ship.row, ship.column);
        int way = Arrays.asList(WAYS).indexOf(what);
        if (way >= 0) {
            int row = ship.row + STEPS[way][0];
            int column = ship.column + STEPS[way][1];
            Cell there = at(row, column);
            return there == null || there.land || shipAt(row, column) != null ? 999 : burden(there);
        }
        int near = 0;
        for (int[] step : STEPS) {
            near += shipAt(ship.row + step[0], ship.column + step[1]) != null ? 1 : 0;
        }
        Map<String, Integer> all = new HashMap<>();
        all.put("hour", s.hour);
        all.put("level", cell.level);
        all.put("ridge", cell.ridged);
        all.put("fuel", ship.fuel);
        all.put("held", held(ship) ? 1 : 0);
        all.put("near", near);
        all.put("row", ship.row);
        all.put("column", ship.column);
        all.put("told", ship.told);
        return all.get(what);
    }

    private boolean act(Ship ship, List<String> act) {
        Cell cell = at(ship.row, ship.column);
        switch (act.get(0)) {
            case "wait": return true;
            case "call":
                for (Ship other : s.ships) {
                    other.told = other == ship ? other.told : Integer.parseInt(act.get(1));
                }
                return true;
            case "cut":
                if (ship.fuel < 5 || cell.channel >= 0) {
                    return false;
                }
                ship.fuel -= 5;
                cell.channel = s.hour;
                return true;
            default:
        }
        int[] step = STEPS[Arrays.asList(WAYS).indexOf(act.get(0))];
        int row = ship.row + step[0];
        int column = ship.column + step[1];
        Cell there = at(row, column);
        if (held(ship) || there == null || there.land || shipAt(row, column) != null) {
            return false;
        }
        int fuel = 1 + burden(there) / 10;
        if (burden(there) > ship.strength || ship.fuel >= 0 && ship.fuel < fuel) {
            return false;
        }
        ship.fuel -= ship.fuel >= 0 ? fuel : 0;
        ship.row = row;
        ship.column = column;
        ship.moved++;
        return true;
    }

    int passage(int from, int hours, int worth) {
        boolean numbers = from >= 0 && from <= 1000 && hours >= 1 && hours <= 100 && worth >= 1 && worth <= 100;
        if (!numbers || s.passages.size() == 6) {
            return -1;
        }
        s.passages.add(new int[] {from, hours, worth});
        return s.passages.size() - 1;
    }

    void clear() {
        s.passages = new ArrayList<>();
    }

    /** Every number of six digits is tried, in no clever way; the order of least cost is the first by its digits. */
    int turns(int breakers) {
        if (breakers < 1 || breakers > 2) {
            return -1;
        }
        int n = s.passages.size();
        int least = Integer.MAX_VALUE;
        for (int digits = 0; digits < 1 << 3 * n; digits++) {
            int turned = 0;
            for (int k = 0; k < n; k++) {
                turned |= (digits >> 3 * (n - 1 - k) & 7) << 3 * k;
            }
            int cost = cost(turned, breakers);
            if (cost >= 0 && cost < least) {
                least = cost;
                s.order = new ArrayList<>();
                for (int k = 0; k < n; k++) {
                    s.order.add(turned >> 3 * k & 7);
                }
            }
        }
        return least;
    }

    int turn(int k) {
        return k >= 0 && k < s.order.size() ? s.order.get(k) : -1;
    }

    int cost(int order, int breakers) {
        if (breakers < 1 || breakers > 2) {
            return -1;
        }
        int n = s.passages.size();
        boolean[] gone = new boolean[8];
        int[] free = {0, breakers == 2 ? 0 : Integer.MAX_VALUE};
        int cost = 0;
        for (int k = 0; k < n; k++, order = Math.floorDiv(order, 8)) {
            int digit = Math.floorMod(order, 8);
            if (digit >= n || gone[digit]) {
                return -1;
            }
            gone[digit] = true;
            int[] passage = s.passages.get(digit);
            int by = free[1] < free[0] ? 1 : 0;
            int begins = Math.max(free[by], passage[0]);
            cost += passage[2] * (begins - passage[0]);
            free[by] = begins + passage[1];
        }
        return cost;
    }

    boolean image(int k) {
        if (k < 0 || k > 2) {
            return false;
        }
        images[k] = s.copy();
        return true;
    }

    boolean again(int k) {
        if (k < 0 || k > 2 || images[k] == null) {
            return false;
        }
        s = images[k].copy();
        return true;
    }
}
