import java.util.Arrays;

/** Ice pilots of a frozen gulf; what each call answers stands in the project's document. */
public final class IcePilots {
    public static final int NONE = -1;

    /** Where NONE is a proper answer, or means something else, a refusal is told by this. */
    private static final int REFUSED = -2;

    private static final int SIDE = 8;
    private static final int CELLS = 64;
    private static final int FULL = 100;
    private static final int MOST_RIDGED = 100;
    private static final int HOURS = 1000;
    private static final int MOST_HOURS_AT_ONCE = 100;
    private static final int MOST_COLD = 40;
    private static final int MOST_FORCE = 50;

    private static final int NORTH = 0;
    private static final int EAST = 1;
    private static final int SOUTH = 2;
    private static final int WEST = 3;

    private static final int SHIPS = 8;
    private static final int MOST_STRENGTH = 200;
    private static final int MOST_FUEL = 5000;
    private static final int MOST_TOLD = 9999;
    private static final int FUEL_OF_A_CUT = 5;
    private static final int CHANNEL_HOURS = 7;
    private static final int NO_WAY_THERE = 999;

    private static final int TAPE = 400;
    private static final int FEED = 20;
    private static final int LINES = 20;
    private static final int OPEN_TERMS = 8;
    private static final int FAULT_OF_FORM = 1;
    private static final int FAULT_OF_LENGTH = 2;

    private static final int PASSAGES = 6;
    private static final int ORDERS_OF_SIX = 720;
    private static final int MOST_FROM = 1000;
    private static final int MOST_TAKEN = 100;
    private static final int MOST_WORTH = 100;

    private static final int IMAGES = 3;

    private final Whole now;
    private final Whole[] images;
    private final Gulf foretold;
    private final Reader reader;

    public IcePilots() {
        now = new Whole();
        images = new Whole[IMAGES];
        // The weather is the same in what is foretold, so it is shared and never copied.
        foretold = new Gulf(now.gulf.weather);
        reader = new Reader();
        now.gulf.begin(1, 1);
    }

    public boolean gulf(int rows, int columns) {
        if (!within(rows, 1, SIDE) || !within(columns, 1, SIDE)) {
            return false;
        }
        now.gulf.begin(rows, columns);
        return true;
    }

    public boolean land(int row, int column, boolean is) {
        Ice ice = now.gulf.ice;
        int cell = ice.find(row, column);
        if (cell == NONE || ice.sea[cell] != is || now.gulf.fleet.shipIn(cell) != NONE) {
            return false;
        }
        ice.laid -= ice.level[cell] + ice.ridged[cell];
        ice.empty(cell, !is);
        return true;
    }

    public boolean ice(int row, int column, int level, int ridged, boolean fast) {
        Ice ice = now.gulf.ice;
        int cell = ice.find(row, column);
        if (cell == NONE || !ice.sea[cell] || !within(level, 0, FULL) || !within(ridged, 0, MOST_RIDGED)) {
            return false;
        }
        ice.lay(cell, level, ridged);
        ice.fast[cell] = fast;
        return true;
    }

    public boolean weather(int from, int n, int cold, int way, int force) {
        if (!within(from, now.gulf.hour, HOURS - 1) || !within(n, 1, HOURS - from)) {
            return false;
        }
        if (!within(cold, -MOST_COLD, MOST_COLD) || !within(way, NORTH, WEST) || !within(force, 0, MOST_FORCE)) {
            return false;
        }
        now.gulf.weather.put(from, from + n, cold, way, force);
        return true;
    }

    public int ship(int strength, int fuel, int row, int column) {
        if (!within(strength, 0, MOST_STRENGTH) || fuel != NONE && !within(fuel, 1, MOST_FUEL)) {
            return NONE;
        }
        Ice ice = now.gulf.ice;
        int cell = ice.find(row, column);
        if (cell == NONE || !ice.sea[cell] || now.gulf.fleet.shipIn(cell) != NONE) {
            return NONE;
        }
        return now.gulf.fleet.join(strength, fuel, cell);
    }

    public int feed(int a, int b, int c, int d, int e) {
        Tape tape = now.tape;
        if (tape.length > TAPE - FEED) {
            return NONE;
        }
        tape.append(a);
        tape.append(b);
        tape.append(c);
        tape.append(d);
        tape.append(e);
        return tape.length;
    }

    public int end(int n) {
        if (!within(n, 0, now.tape.length)) {
            return NONE;
        }
        now.tape.length = n;
        return n;
    }

    public int orders(int ship) {
        if (!now.gulf.fleet.has(ship)) {
            return REFUSED;
        }
        reader.read(now.tape);
        now.tape.length = 0;
        now.fault = reader.fault;
        now.place = reader.place;
        if (reader.fault != 0) {
            return NONE;
        }
        now.gulf.fleet.orders[ship] = reader.result();
        return reader.lines;
    }

    public int fault(int what) {
        switch (what) {
            case 0: return now.fault;
            case 1: return now.place;
            default: return NONE;
        }
    }

    public boolean call(int ship, int number) {
        if (!now.gulf.fleet.has(ship) || !within(number, 0, MOST_TOLD)) {
            return false;
        }
        now.gulf.fleet.told[ship] = number;
        return true;
    }

    public int hours(int n) {
        if (!canPass(n)) {
            return NONE;
        }
        for (int k = 0; k < n; k++) {
            now.gulf.passHour();
        }
        return now.gulf.hour;
    }

    public int ahead(int n, int ship, int what) {
        boolean ofShip = within(what, 0, 3);
        if (!canPass(n) || !within(what, 0, 5) || ofShip && !now.gulf.fleet.has(ship)) {
            return REFUSED;
        }
        foretold.copyAllButWeather(now.gulf);
        for (int k = 0; k < n; k++) {
            foretold.passHour();
        }
        return ofShip ? foretoldOfShip(ship, what) : what == 4 ? foretold.ice.allLevel() : foretold.ice.allRidged();
    }

    public int cell(int row, int column, int what) {
        Ice ice = now.gulf.ice;
        int cell = ice.find(row, column);
        if (cell == NONE) {
            return NONE;
        }
        switch (what) {
            case 0: return ice.sea[cell] ? 1 : 0;
            case 1: return ice.level[cell];
            case 2: return ice.ridged[cell];
            case 3: return ice.channel[cell];
            case 4: return ice.fast[cell] ? 1 : 0;
            case 5: return ice.burden(cell);
            case 6: return now.gulf.fleet.shipIn(cell);
            default: return NONE;
        }
    }

    public int tell(int ship, int what) {
        Fleet fleet = now.gulf.fleet;
        if (!fleet.has(ship)) {
            return NONE;
        }
        switch (what) {
            case 0: return fleet.strength[ship];
            case 1: return fleet.fuel[ship];
            case 2: return fleet.place[ship] / SIDE;
            case 3: return fleet.place[ship] % SIDE;
            case 4: return now.gulf.held(ship) ? 1 : 0;
            case 5: return fleet.told[ship];
            case 6: return fleet.moved[ship];
            case 7: return fleet.line[ship];
            case 8: return fleet.done[ship] ? 1 : 0;
            case 9: return fleet.linesOf(ship);
            default: return NONE;
        }
    }

    public int count(int what) {
        Ice ice = now.gulf.ice;
        switch (what) {
            case 0: return ice.rows;
            case 1: return ice.columns;
            case 2: return now.gulf.fleet.size;
            case 3: return now.gulf.hour;
            case 4: return ice.allLevel();
            case 5: return ice.allRidged();
            case 6: return ice.laid;
            case 7: return ice.grown;
            case 8: return ice.melted;
            case 9: return now.convoy.size;
            default: return NONE;
        }
    }

    public int passage(int from, int hours, int worth) {
        if (!within(from, 0, MOST_FROM) || !within(hours, 1, MOST_TAKEN) || !within(worth, 1, MOST_WORTH)) {
            return NONE;
        }
        return now.convoy.join(from, hours, worth);
    }

    public void clear() {
        now.convoy.size = 0;
    }

    public int turns(int breakers) {
        if (!within(breakers, 1, 2)) {
            return NONE;
        }
        return now.convoy.settle(breakers);
    }

    public int turn(int k) {
        if (!within(k, 0, now.convoy.settledSize - 1)) {
            return NONE;
        }
        return now.convoy.settled[k];
    }

    public int cost(int order, int breakers) {
        // No order is refused for its size or sign: what stands behind the digits that are read counts for nothing.
        if (!within(breakers, 1, 2) || !now.convoy.tryDigits(order)) {
            return NONE;
        }
        return now.convoy.waiting(breakers);
    }

    public boolean image(int k) {
        if (!within(k, 0, IMAGES - 1)) {
            return false;
        }
        if (images[k] == null) {
            images[k] = new Whole();
        }
        images[k].copy(now);
        return true;
    }

    public boolean again(int k) {
        if (!within(k, 0, IMAGES - 1) || images[k] == null) {
            return false;
        }
        now.copy(images[k]);
        return true;
    }

    private static boolean within(int number, int least, int most) {
        return number >= least && number <= most;
    }

    private boolean canPass(int n) {
        return within(n, 1, MOST_HOURS_AT_ONCE) && now.gulf.hour <= HOURS - n;
    }

    private int foretoldOfShip(int ship, int what) {
        Fleet fleet = foretold.fleet;
        switch (what) {
            case 0: return fleet.place[ship] / SIDE;
            case 1: return fleet.place[ship] % SIDE;
            case 2: return fleet.fuel[ship];
            default: return fleet.moved[ship] - now.gulf.fleet.moved[ship];
        }
    }

    /** All that an image keeps: every answer but those about images comes from here. */
    private static final class Whole {
        final Gulf gulf = new Gulf(new Weather());
        final Tape tape = new Tape();
        final Convoy convoy = new Convoy();
        int fault = 0;
        int place = NONE;

        void copy(Whole other) {
            gulf.copyAllButWeather(other.gulf);
            gulf.weather.copy(other.gulf.weather);
            tape.copy(other.tape);
            convoy.copy(other.convoy);
            fault = other.fault;
            place = other.place;
        }
    }

    /** The gulf with its ships, and what an hour does to them. */
    private static final class Gulf {
        final Weather weather;
        final Ice ice = new Ice();
        final Fleet fleet = new Fleet();
        int hour = 0;

        Gulf(Weather weather) {
            this.weather = weather;
        }

        void begin(int rows, int columns) {
            ice.begin(rows, columns);
            fleet.size = 0;
            weather.put(0, HOURS, 0, NORTH, 0);
            hour = 0;
        }

        /** The weather is left out: what is foretold shares it, and images copy it themselves. */
        void copyAllButWeather(Gulf other) {
            ice.copy(other.ice);
            fleet.copy(other.fleet);
            hour = other.hour;
        }

        void passHour() {
            if (hour < 0 || hour >= HOURS) {
                return;
            }
            for (int ship = 0; ship < fleet.size; ship++) {
                command(ship);
            }
            int cold = weather.cold[hour];
            if (cold > 0) {
                ice.grow(cold);
            } else if (cold < 0) {
                ice.melt(-cold);
            }
            ice.drift(weather.way[hour], weather.force[hour]);
            ice.closeChannels(hour - CHANNEL_HOURS + Math.max(cold, 0) / 10);
            hour++;
        }

        boolean held(int ship) {
            return ice.burden(fleet.place[ship]) > fleet.strength[ship] && !fleet.breakerBeside(ship);
        }

        private void command(int ship) {
            fleet.line[ship] = NONE;
            fleet.done[ship] = false;
            Orders text = fleet.orders[ship];
            if (text == null) {
                return;
            }
            for (int line = 0; line < text.acts.length; line++) {
                if (holds(ship, text, line)) {
                    fleet.line[ship] = line;
                    fleet.done[ship] = carryOut(ship, text.acts[line], text.numbers[line]);
                    return;
                }
            }
        }

        /** The steps stand behind what they join, so the open answers are kept as bits, the latest lowest. */
        private boolean holds(int ship, Orders text, int line) {
            int first = line == 0 ? 0 : text.ends[line - 1];
            int open = first == text.ends[line] ? 1 : 0;
            for (int k = first; k < text.ends[line]; k++) {
                int step = text.steps[k];
                switch (step) {
                    case Orders.NOT:
                        open = open ^ 1;
                        break;
                    case Orders.AND:
                        open = (open >> 1) & (open | ~1);
                        break;
                    case Orders.OR:
                        open = (open >> 1) | (open & 1);
                        break;
                    default:
                        open = (open << 1) | (Orders.agrees(step, sight(ship, Orders.whatOf(step))) ? 1 : 0);
                }
            }
            return (open & 1) == 1;
        }

        private int sight(int ship, int what) {
            int cell = fleet.place[ship];
            switch (what) {
                case Words.HOUR: return hour;
                case Words.LEVEL: return ice.level[cell];
                case Words.RIDGE: return ice.ridged[cell];
                case Words.FUEL: return fleet.fuel[ship];
                case Words.HELD: return held(ship) ? 1 : 0;
                case Words.NEAR: return fleet.shipsBeside(ship);
                case Words.ROW: return cell / SIDE;
                case Words.COLUMN: return cell % SIDE;
                case Words.TOLD: return fleet.told[ship];
                default: return burdenSeen(cell, what);
            }
        }

        private int burdenSeen(int cell, int way) {
            int there = ice.next(cell, way);
            if (there == NONE || !ice.sea[there] || fleet.shipIn(there) != NONE) {
                return NO_WAY_THERE;
            }
            return ice.burden(there);
        }

        private boolean carryOut(int ship, int act, int number) {
            switch (act) {
                case Words.WAIT: return true;
                case Words.CUT: return cut(ship);
                case Words.CALL:
                    fleet.tellOthers(ship, number);
                    return true;
                default: return move(ship, act);
            }
        }

        private boolean cut(int ship) {
            int cell = fleet.place[ship];
            if (fleet.fuel[ship] < FUEL_OF_A_CUT || ice.channel[cell] != NONE) {
                return false;
            }
            ice.channel[cell] = hour;
            fleet.fuel[ship] -= FUEL_OF_A_CUT;
            return true;
        }

        private boolean move(int ship, int way) {
            int there = ice.next(fleet.place[ship], way);
            if (there == NONE || !ice.sea[there] || fleet.shipIn(there) != NONE || held(ship)) {
                return false;
            }
            int burden = ice.burden(there);
            int taken = 1 + burden / 10;
            boolean breaker = fleet.isBreaker(ship);
            if (burden > fleet.strength[ship] || breaker && fleet.fuel[ship] < taken) {
                return false;
            }
            if (breaker) {
                fleet.fuel[ship] -= taken;
            }
            fleet.place[ship] = there;
            fleet.moved[ship]++;
            return true;
        }
    }

    /** Cold and wind of every hour. */
    private static final class Weather {
        final int[] cold = new int[HOURS];
        final int[] way = new int[HOURS];
        final int[] force = new int[HOURS];

        void put(int from, int to, int coldThen, int wayThen, int forceThen) {
            for (int hour = Math.max(from, 0); hour < to && hour < HOURS; hour++) {
                cold[hour] = coldThen;
                way[hour] = wayThen;
                force[hour] = forceThen;
            }
        }

        void copy(Weather other) {
            System.arraycopy(other.cold, 0, cold, 0, HOURS);
            System.arraycopy(other.way, 0, way, 0, HOURS);
            System.arraycopy(other.force, 0, force, 0, HOURS);
        }
    }

    /** The cells, in rows of SIDE places; places beside the gulf count as land, so that nothing drifts there. */
    private static final class Ice {
        final boolean[] sea = new boolean[CELLS];
        final boolean[] fast = new boolean[CELLS];
        final int[] level = new int[CELLS];
        final int[] ridged = new int[CELLS];
        final int[] channel = new int[CELLS];
        final int[] arrived = new int[CELLS];
        int rows = 0;
        int columns = 0;
        int laid = 0;
        int grown = 0;
        int melted = 0;

        void begin(int newRows, int newColumns) {
            rows = newRows;
            columns = newColumns;
            laid = 0;
            grown = 0;
            melted = 0;
            for (int cell = 0; cell < CELLS; cell++) {
                empty(cell, cell / SIDE < rows && cell % SIDE < columns);
            }
        }

        void copy(Ice other) {
            rows = other.rows;
            columns = other.columns;
            laid = other.laid;
            grown = other.grown;
            melted = other.melted;
            System.arraycopy(other.sea, 0, sea, 0, CELLS);
            System.arraycopy(other.fast, 0, fast, 0, CELLS);
            System.arraycopy(other.level, 0, level, 0, CELLS);
            System.arraycopy(other.ridged, 0, ridged, 0, CELLS);
            System.arraycopy(other.channel, 0, channel, 0, CELLS);
        }

        void empty(int cell, boolean isSea) {
            sea[cell] = isSea;
            fast[cell] = false;
            level[cell] = 0;
            ridged[cell] = 0;
            channel[cell] = NONE;
        }

        void lay(int cell, int newLevel, int newRidged) {
            laid += newLevel + newRidged - level[cell] - ridged[cell];
            level[cell] = newLevel;
            ridged[cell] = newRidged;
            channel[cell] = NONE;
        }

        int find(int row, int column) {
            if (row < 0 || row >= rows || column < 0 || column >= columns) {
                return NONE;
            }
            return row * SIDE + column;
        }

        int next(int cell, int way) {
            int row = cell / SIDE;
            int column = cell % SIDE;
            switch (way) {
                case NORTH: return find(row - 1, column);
                case EAST: return find(row, column + 1);
                case SOUTH: return find(row + 1, column);
                case WEST: return find(row, column - 1);
                default: return NONE;
            }
        }

        int burden(int cell) {
            return channel[cell] == NONE ? level[cell] / 2 + ridged[cell] : 0;
        }

        int allLevel() {
            return sumOf(level);
        }

        int allRidged() {
            return sumOf(ridged);
        }

        private int sumOf(int[] amounts) {
            int sum = 0;
            for (int cell = 0; cell < CELLS; cell++) {
                sum += amounts[cell];
            }
            return sum;
        }

        void grow(int cold) {
            for (int cell = 0; cell < rows * SIDE; cell++) {
                if (sea[cell]) {
                    int more = (FULL - level[cell]) * cold / 400;
                    level[cell] += more;
                    grown += more;
                }
            }
        }

        void melt(int warmth) {
            for (int cell = 0; cell < rows * SIDE; cell++) {
                if (sea[cell]) {
                    int less = level[cell] * warmth / 400;
                    int lessRidged = ridged[cell] * warmth / 800;
                    level[cell] -= less;
                    ridged[cell] -= lessRidged;
                    melted += less + lessRidged;
                }
            }
        }

        /** What arrives is kept apart until all have sent, so that no ice goes two cells in an hour. */
        void drift(int way, int force) {
            Arrays.fill(arrived, 0);
            if (force <= 0) {
                return;
            }
            for (int cell = 0; cell < rows * SIDE; cell++) {
                if (sea[cell] && !fast[cell]) {
                    send(cell, next(cell, way), level[cell] * force / 200);
                }
            }
            for (int cell = 0; cell < rows * SIDE; cell++) {
                int together = level[cell] + arrived[cell];
                level[cell] = Math.min(together, FULL);
                ridged[cell] += together - level[cell];
            }
        }

        private void send(int cell, int there, int amount) {
            if (there != NONE && sea[there]) {
                level[cell] -= amount;
                arrived[there] += amount;
            }
        }

        void closeChannels(int latestCut) {
            for (int cell = 0; cell < rows * SIDE; cell++) {
                if (arrived[cell] > 0 || channel[cell] <= latestCut) {
                    channel[cell] = NONE;
                }
            }
        }
    }

    /** The ships, a place of each row for each of them. */
    private static final class Fleet {
        final int[] strength = new int[SHIPS];
        final int[] fuel = new int[SHIPS];
        final int[] place = new int[SHIPS];
        final int[] told = new int[SHIPS];
        final int[] moved = new int[SHIPS];
        final int[] line = new int[SHIPS];
        final boolean[] done = new boolean[SHIPS];
        final Orders[] orders = new Orders[SHIPS];
        int size = 0;

        void copy(Fleet other) {
            size = other.size;
            System.arraycopy(other.strength, 0, strength, 0, SHIPS);
            System.arraycopy(other.fuel, 0, fuel, 0, SHIPS);
            System.arraycopy(other.place, 0, place, 0, SHIPS);
            System.arraycopy(other.told, 0, told, 0, SHIPS);
            System.arraycopy(other.moved, 0, moved, 0, SHIPS);
            System.arraycopy(other.line, 0, line, 0, SHIPS);
            System.arraycopy(other.done, 0, done, 0, SHIPS);
            for (int ship = 0; ship < SHIPS; ship++) {
                orders[ship] = other.orders[ship];
            }
        }

        int join(int itsStrength, int itsFuel, int cell) {
            if (size >= SHIPS) {
                return NONE;
            }
            strength[size] = itsStrength;
            fuel[size] = itsFuel;
            place[size] = cell;
            told[size] = 0;
            moved[size] = 0;
            line[size] = NONE;
            done[size] = false;
            orders[size] = null;
            size++;
            return size - 1;
        }

        boolean has(int ship) {
            return ship >= 0 && ship < size;
        }

        /** A breaker that has burnt all its fuel stays one: NONE is what the others have. */
        boolean isBreaker(int ship) {
            return fuel[ship] != NONE;
        }

        int linesOf(int ship) {
            Orders text = orders[ship];
            return text == null ? 0 : text.acts.length;
        }

        int shipIn(int cell) {
            for (int ship = 0; ship < size; ship++) {
                if (place[ship] == cell) {
                    return ship;
                }
            }
            return NONE;
        }

        boolean breakerBeside(int ship) {
            for (int other = 0; other < size; other++) {
                if (isBreaker(other) && beside(ship, other)) {
                    return true;
                }
            }
            return false;
        }

        int shipsBeside(int ship) {
            int near = 0;
            for (int other = 0; other < size; other++) {
                if (beside(ship, other)) {
                    near++;
                }
            }
            return near;
        }

        void tellOthers(int ship, int number) {
            for (int other = 0; other < size; other++) {
                if (other != ship) {
                    told[other] = number;
                }
            }
        }

        private boolean beside(int ship, int other) {
            int rowsApart = place[ship] / SIDE - place[other] / SIDE;
            int columnsApart = place[ship] % SIDE - place[other] % SIDE;
            return rowsApart * rowsApart + columnsApart * columnsApart == 1;
        }
    }

    /** A text that was read. It never changes, so that ships, images and what is foretold share it. */
    private static final class Orders {
        static final int NOT = -1;
        static final int AND = -2;
        static final int OR = -3;

        final int[] steps;
        final int[] ends;
        final int[] acts;
        final int[] numbers;

        Orders(int[] steps, int[] ends, int[] acts, int[] numbers) {
            this.steps = steps;
            this.ends = ends;
            this.acts = acts;
            this.numbers = numbers;
        }

        static int comparison(int what, int sign, int number) {
            return (what << 22) | (sign << 14) | number;
        }

        static int whatOf(int step) {
            return step >> 22;
        }

        static boolean agrees(int step, int seen) {
            int number = step & 16383;
            switch ((step >> 14) & 255) {
                case '<': return seen < number;
                case '>': return seen > number;
                default: return seen == number;
            }
        }
    }

    /** The words of the language: the ways first, that a way's word is its number. */
    private static final class Words {
        static final int HOUR = 4;
        static final int LEVEL = 5;
        static final int RIDGE = 6;
        static final int FUEL = 7;
        static final int HELD = 8;
        static final int NEAR = 9;
        static final int ROW = 10;
        static final int COLUMN = 11;
        static final int TOLD = 12;
        static final int WAIT = 13;
        static final int CUT = 14;
        static final int CALL = 15;
        static final int IF = 16;
        static final int OR = 17;
        static final int AND = 18;
        static final int NOT = 19;

        private static final int ALL = 20;
        private static final int LONGEST = 6;
        /** Each word fills LONGEST places, so that its number tells where it stands. */
        private static final String TABLE =
            "north east  south west  hour  level ridge fuel  held  near  row   columntold  wait  cut   call  if    or    and   not   ";

        /** The word that the tape has in these places, or NONE. */
        static int find(Tape tape, int from, int to) {
            if (to - from > LONGEST) {
                return NONE;
            }
            for (int word = 0; word < ALL; word++) {
                if (stands(word, tape, from, to)) {
                    return word;
                }
            }
            return NONE;
        }

        private static boolean stands(int word, Tape tape, int from, int to) {
            for (int k = 0; k < LONGEST; k++) {
                int letter = from + k < to ? tape.at(from + k) : ' ';
                if (TABLE.charAt(word * LONGEST + k) != letter) {
                    return false;
                }
            }
            return true;
        }

        static boolean isWhat(int token) {
            return token >= NORTH && token <= TOLD;
        }

        static boolean isAct(int token) {
            return token >= NORTH && token <= WEST || token == WAIT || token == CUT || token == CALL;
        }
    }

    /** Bytes of a text of orders, as they were fed. */
    private static final class Tape {
        final int[] bytes = new int[TAPE];
        int length = 0;

        void append(int four) {
            for (int shift = 24; shift >= 0 && length < TAPE; shift -= 8) {
                bytes[length] = (four >>> shift) & 255;
                length++;
            }
        }

        /** Behind the end there is a byte that is part of no token. */
        int at(int place) {
            return place >= 0 && place < length ? bytes[place] : 0;
        }

        void copy(Tape other) {
            length = other.length;
            System.arraycopy(other.bytes, 0, bytes, 0, TAPE);
        }
    }

    /** Reads a tape: first all tokens, then lines of them. A fault stops it where it is found. */
    private static final class Reader {
        // Words are tokens by their numbers and signs by their bytes; these are neither.
        private static final int NUMBER = 256;
        private static final int THE_END = 257;
        private static final int NO_TOKEN = 258;
        private static final int LONGEST_NUMBER = 4;

        private final int[] tokens = new int[TAPE + 1];
        private final int[] places = new int[TAPE + 1];
        private final int[] values = new int[TAPE + 1];
        private int size = 0;
        private int at = 0;

        private final int[] steps = new int[TAPE];
        private final int[] ends = new int[LINES];
        private final int[] acts = new int[LINES];
        private final int[] numbers = new int[LINES];
        private int stepped = 0;

        int lines = 0;
        int fault = 0;
        int place = NONE;

        void read(Tape tape) {
            scan(tape);
            at = 0;
            stepped = 0;
            lines = 0;
            fault = 0;
            place = NONE;
            int surplus = NONE;
            for (int k = 0; k < TAPE && token() != THE_END; k++) {
                if (lines == LINES) {
                    surplus = placeHere();
                }
                if (!readLine()) {
                    fault = FAULT_OF_FORM;
                    place = placeHere();
                    return;
                }
            }
            if (surplus != NONE) {
                fault = FAULT_OF_LENGTH;
                place = surplus;
            }
        }

        /** For a text without a fault alone, which has no more lines than are kept. */
        Orders result() {
            int kept = Math.min(lines, LINES);
            return new Orders(Arrays.copyOf(steps, stepped), Arrays.copyOf(ends, kept),
                    Arrays.copyOf(acts, kept), Arrays.copyOf(numbers, kept));
        }

        private void scan(Tape tape) {
            size = 0;
            int next = 0;
            for (int k = 0; k < TAPE && next < tape.length; k++) {
                int first = tape.at(next);
                if (first == ' ' || first == '\n') {
                    next++;
                } else if (isLetter(first)) {
                    next = scanWord(tape, next);
                } else if (isDigit(first)) {
                    next = scanNumber(tape, next);
                } else {
                    addToken(isSign(first) ? first : NO_TOKEN, next, 0);
                    next++;
                }
            }
            addToken(THE_END, tape.length, 0);
        }

        private int scanWord(Tape tape, int from) {
            int to = from + 1;
            while (to < tape.length && isLetter(tape.at(to))) {
                to++;
            }
            int word = Words.find(tape, from, to);
            addToken(word == NONE ? NO_TOKEN : word, from, 0);
            return to;
        }

        private int scanNumber(Tape tape, int from) {
            int to = from;
            int value = 0;
            while (to < tape.length && isDigit(tape.at(to))) {
                value = (value * 10 + tape.at(to) - '0') % 10000;
                to++;
            }
            addToken(to - from > LONGEST_NUMBER ? NO_TOKEN : NUMBER, from, value);
            return to;
        }

        private void addToken(int token, int from, int value) {
            if (size <= TAPE) {
                tokens[size] = token;
                places[size] = from;
                values[size] = value;
                size++;
            }
        }

        private static boolean isLetter(int letter) {
            return letter >= 'a' && letter <= 'z';
        }

        private static boolean isDigit(int digit) {
            return digit >= '0' && digit <= '9';
        }

        private static boolean isSign(int sign) {
            return sign == '(' || sign == ')' || sign == ':' || sign == ';' || isComparison(sign);
        }

        private static boolean isComparison(int sign) {
            return sign == '=' || sign == '<' || sign == '>';
        }

        private int token() {
            return at < size ? tokens[at] : THE_END;
        }

        private int placeHere() {
            return at < size ? places[at] : NONE;
        }

        /** The end is never passed, so that a fault there still has its place. */
        private boolean take(int token) {
            if (at >= size || tokens[at] != token || token == THE_END) {
                return false;
            }
            at++;
            return true;
        }

        private int takeNumber() {
            if (at >= size || tokens[at] != NUMBER) {
                return NONE;
            }
            at++;
            return values[at - 1];
        }

        private boolean readLine() {
            if (take(Words.IF) && !(readTerm(1) && take(':'))) {
                return false;
            }
            int act = token();
            if (!Words.isAct(act)) {
                return false;
            }
            at++;
            int number = act == Words.CALL ? takeNumber() : 0;
            if (number == NONE || !take(';')) {
                return false;
            }
            keepLine(act, number);
            return true;
        }

        /** Lines beyond the last one that may stand are read, for a fault of form goes first, but not kept. */
        private void keepLine(int act, int number) {
            if (lines < LINES) {
                ends[lines] = stepped;
                acts[lines] = act;
                numbers[lines] = number;
            }
            lines++;
        }

        private boolean readTerm(int open) {
            if (open > OPEN_TERMS || !readBoth(open)) {
                return false;
            }
            for (int k = 0; k < TAPE && take(Words.OR); k++) {
                if (!readBoth(open)) {
                    return false;
                }
                addStep(Orders.OR);
            }
            return true;
        }

        private boolean readBoth(int open) {
            if (!readOne(open)) {
                return false;
            }
            for (int k = 0; k < TAPE && take(Words.AND); k++) {
                if (!readOne(open)) {
                    return false;
                }
                addStep(Orders.AND);
            }
            return true;
        }

        private boolean readOne(int open) {
            boolean turned = take(Words.NOT);
            boolean read = take('(') ? readTerm(open + 1) && take(')') : readComparison();
            if (read && turned) {
                addStep(Orders.NOT);
            }
            return read;
        }

        private boolean readComparison() {
            int what = token();
            if (!Words.isWhat(what)) {
                return false;
            }
            at++;
            int sign = token();
            if (!isComparison(sign)) {
                return false;
            }
            at++;
            int number = takeNumber();
            if (number == NONE) {
                return false;
            }
            addStep(Orders.comparison(what, sign, number));
            return true;
        }

        private void addStep(int step) {
            if (stepped < TAPE) {
                steps[stepped] = step;
                stepped++;
            }
        }
    }

    /** The passages, and the order of them that was settled last. */
    private static final class Convoy {
        final int[] from = new int[PASSAGES];
        final int[] takes = new int[PASSAGES];
        final int[] worth = new int[PASSAGES];
        final int[] settled = new int[PASSAGES];
        final int[] tried = new int[PASSAGES];
        int size = 0;
        int settledSize = 0;

        void copy(Convoy other) {
            size = other.size;
            settledSize = other.settledSize;
            System.arraycopy(other.from, 0, from, 0, PASSAGES);
            System.arraycopy(other.takes, 0, takes, 0, PASSAGES);
            System.arraycopy(other.worth, 0, worth, 0, PASSAGES);
            System.arraycopy(other.settled, 0, settled, 0, PASSAGES);
        }

        int join(int itsFrom, int itTakes, int itsWorth) {
            if (size >= PASSAGES) {
                return NONE;
            }
            from[size] = itsFrom;
            takes[size] = itTakes;
            worth[size] = itsWorth;
            size++;
            return size - 1;
        }

        /** The orders come by their numbers, so the first one of least cost is the one to keep. */
        int settle(int breakers) {
            for (int k = 0; k < size; k++) {
                tried[k] = k;
            }
            int least = waiting(breakers);
            keepTried();
            for (int k = 1; k < ORDERS_OF_SIX && least > 0 && tryNext(); k++) {
                int cost = waiting(breakers);
                if (cost < least) {
                    least = cost;
                    keepTried();
                }
            }
            return least;
        }

        /** The cost of the order that is being tried. */
        int waiting(int breakers) {
            int cost = 0;
            int freeFirst = 0;
            int freeSecond = 0;
            for (int k = 0; k < size; k++) {
                int passage = tried[k];
                boolean bySecond = breakers == 2 && freeSecond < freeFirst;
                int begins = Math.max(from[passage], bySecond ? freeSecond : freeFirst);
                cost += worth[passage] * (begins - from[passage]);
                if (bySecond) {
                    freeSecond = begins + takes[passage];
                } else {
                    freeFirst = begins + takes[passage];
                }
            }
            return cost;
        }

        /** False if these digits are no order of all passages. */
        boolean tryDigits(int digits) {
            int seen = 0;
            for (int k = 0; k < size; k++) {
                int passage = (digits >>> (3 * k)) & 7;
                if (passage >= size || (seen >> passage & 1) == 1) {
                    return false;
                }
                seen = seen | 1 << passage;
                tried[k] = passage;
            }
            return true;
        }

        private void keepTried() {
            System.arraycopy(tried, 0, settled, 0, PASSAGES);
            settledSize = size;
        }

        /** Goes on to the order next by its numbers; false if there is none. */
        private boolean tryNext() {
            int rise = size - 2;
            while (rise >= 0 && tried[rise] > tried[rise + 1]) {
                rise--;
            }
            if (rise < 0) {
                return false;
            }
            int above = size - 1;
            while (above > rise && tried[above] < tried[rise]) {
                above--;
            }
            swap(rise, above);
            for (int left = rise + 1, right = size - 1; left < right; left++, right--) {
                swap(left, right);
            }
            return true;
        }

        private void swap(int one, int other) {
            int kept = tried[one];
            tried[one] = tried[other];
            tried[other] = kept;
        }
    }
}
