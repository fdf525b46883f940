import java.util.Arrays;

/** Old hulls kept from sinking: famous ships as museums. What each call answers stands in ../shared/DOC.md. */
public final class HullKeepers {
    public static final int NONE = -1, BAD = -2, NO = -3, FULL = -4;

    private static final int MOST_SHIPS = 6, MOST_PLATES = 96, MOST_READINGS = 150, GAUGES = 4;
    private static final int TEXTS = 4, MOST_SIGNS = 60, MOST_HULLS = 4, MOST_TESTS = 20;
    private static final int MOST_HANDS = 8, MOST_WORKS = 8, ALL_PLACES = 4095, TRADES = 5, ALL_TRADES = 31;
    private static final int MONTHS = 600, LAST_MONTH = 599, MOST_MONTHS = 60, DAYS = 90, YEARS = 10;
    private static final int ZONES = 3, DRY = 0, WET = 2, IMAGES = 2, COUNTS = 9;

    private static final int BAD_PLATE = -10000, BAD_BIAS = -1000, NO_BIAS = -2000, BAD_CHARTER = -10;
    private static final long BAD_TELLING = -2000000000000000000L, NO_TELLING = -3000000000000000000L;

    private final House house;
    private final House[] images;
    private final Reader reader;
    private final Storms storms;
    private final Planner planner;
    private final LeakFinder leakFinder;
    private final Crew crew;

    public HullKeepers() {
        house = new House();
        images = new House[IMAGES];
        reader = new Reader(house);
        storms = new Storms();
        planner = new Planner(house);
        leakFinder = new LeakFinder();
        crew = new Crew();
    }

    // ---- ships, plates, months

    public int ship(int area, int depth, int weight, int pump) {
        if (!within(area, 10, 1000) || !within(depth, 1, 500)
                || !within(weight, 1, 200000) || !within(pump, 0, 10000)) {
            return BAD;
        }
        if (house.ships.isFull()) {
            return FULL;
        }
        int number = house.ships.add(area, depth, weight, pump, 0);
        house.ships.put(number, House.CHARTER, NONE);
        return number;
    }

    public int plate(int ship, int zone, int thickness, int mass, int made) {
        if (!house.ships.has(ship) || !within(zone, 0, ZONES - 1) || !within(thickness, 1, 5000)
                || !within(mass, 1, 1000) || !within(made, -6000, 0)) {
            return BAD;
        }
        return house.plates.isFull() ? FULL : house.plates.add(ship, zone, thickness, mass, made);
    }

    public int lay(int ship) {
        if (!house.ships.has(ship)) {
            return BAD;
        }
        if (house.ships.get(ship, House.LAID) > 0 || house.platesOf(ship) == 0) {
            return NO;
        }
        return house.layShip(ship);
    }

    public int wear(int zone, int v) {
        if (!within(zone, 0, ZONES - 1) || !within(v, 0, 50)) {
            return BAD;
        }
        int was = house.wears[zone];
        house.wears[zone] = v;
        return was;
    }

    public int bound(int v) {
        if (!within(v, 0, 1000)) {
            return BAD;
        }
        int was = house.bound;
        house.bound = v;
        return was;
    }

    public int wire(int v) {
        if (!within(v, 0, 60000)) {
            return BAD;
        }
        int was = house.wire;
        house.wire = v;
        return was;
    }

    public int crowd(int ship, int v) {
        if (!house.ships.has(ship) || !within(v, 0, 20000)) {
            return BAD;
        }
        return house.ships.swap(ship, House.CROWD, v);
    }

    public int storm(int month, int sea) {
        if (!isMonth(month) || !within(sea, 0, 100000)) {
            return BAD;
        }
        int was = house.seas[month];
        house.seas[month] = sea;
        return was;
    }

    public int months(int n) {
        return mayPass(n) ? house.passMonths(n) : BAD;
    }

    public int about(int ship, int what) {
        return house.ships.has(ship) && within(what, 0, 6) ? house.shipAt(ship, what) : BAD;
    }

    public int plateAt(int plate, int what) {
        return house.plates.has(plate) && within(what, 0, 5) ? house.plates.get(plate, what) : BAD_PLATE;
    }

    public int replace(int plate, int thickness) {
        if (!house.plates.has(plate) || !within(thickness, 1, 5000)) {
            return BAD;
        }
        int ship = house.plates.get(plate, House.SHIP);
        int charter = house.ships.get(ship, House.CHARTER);
        if (!house.floats(ship) || (charter != NONE && !reader.isTrue(charter, plate))) {
            return NO;
        }
        house.plates.put(plate, House.THICKNESS, thickness);
        house.plates.put(plate, House.MADE, house.now);
        house.plates.put(plate, House.FIRST, 0);
        return 1;
    }

    public int move(int plate, int ship) {
        if (!house.plates.has(plate) || !house.ships.has(ship)) {
            return BAD;
        }
        int own = house.plates.get(plate, House.SHIP);
        if (own == ship) {
            return BAD;
        }
        if (!house.floats(own) || !house.floats(ship)) {
            return NO;
        }
        house.plates.put(plate, House.SHIP, ship);
        house.plates.put(plate, House.FIRST, 0);
        return 1;
    }

    // ---- readings, texts

    public int reading(int plate, int month, int gauge, int v, int known) {
        if (!house.plates.has(plate) || !within(month, 0, house.now) || !house.gauges.has(gauge)
                || !within(known, month, LAST_MONTH)) {
            return BAD;
        }
        return house.readings.isFull() ? FULL : house.readings.add(plate, month, gauge, v, known);
    }

    public int bias(int gauge, int v) {
        if (!house.gauges.has(gauge) || !within(v, -100, 100)) {
            return BAD_BIAS;
        }
        if (house.gauges.get(gauge, House.RIGHT_KNOWN) != NONE) {
            return NO_BIAS;
        }
        return house.gauges.swap(gauge, House.BIAS, v);
    }

    public int right(int gauge, int v, int known) {
        if (!house.gauges.has(gauge) || !within(v, -100, 100) || !isMonth(known)) {
            return BAD;
        }
        if (house.gauges.get(gauge, House.RIGHT_KNOWN) != NONE) {
            return NO;
        }
        house.gauges.put(gauge, House.RIGHT, v);
        house.gauges.put(gauge, House.RIGHT_KNOWN, known);
        return 1;
    }

    public int guess(int plate, int month, int k) {
        if (!house.plates.has(plate) || !isMonth(month) || !isMonth(k)) {
            return BAD;
        }
        return house.guessFor(plate, month, k);
    }

    public int due(int plate, int k) {
        return house.plates.has(plate) && isMonth(k) ? house.dueMonth(plate, k) : BAD;
    }

    public int first(int ship, int k) {
        return house.ships.has(ship) && isMonth(k) ? house.firstDue(ship, k) : BAD;
    }

    public int write(int text, int character) {
        if (!house.texts.has(text) || !within(character, 0, 127)) {
            return BAD;
        }
        int length = house.texts.get(text, House.LENGTH);
        if (length >= MOST_SIGNS) {
            return FULL;
        }
        house.texts.put(text, House.SIGNS + length, character);
        house.texts.put(text, House.LENGTH, length + 1);
        return length + 1;
    }

    public int erase(int text) {
        return house.texts.has(text) ? house.texts.swap(text, House.LENGTH, 0) : BAD;
    }

    public int fault(int text) {
        return house.texts.has(text) ? reader.flawOf(text) : BAD;
    }

    public long tells(int text, int plate) {
        if (!house.texts.has(text) || !house.plates.has(plate)) {
            return BAD_TELLING;
        }
        long telling = reader.tell(text, plate);
        return reader.hasFlaw() ? NO_TELLING : telling;
    }

    public int charter(int ship, int text) {
        if (!house.ships.has(ship) || (text != NONE && !house.texts.has(text))) {
            return BAD_CHARTER;
        }
        return house.ships.swap(ship, House.CHARTER, text);
    }

    public int unlike(int ship, int a, int b, int what) {
        if (!house.ships.has(ship) || !house.texts.has(a) || !house.texts.has(b) || what < NONE) {
            return BAD;
        }
        int found = 0;
        for (int p = 0; p < house.plates.rows; p++) {
            if (house.plates.get(p, House.SHIP) == ship && reader.isTrue(a, p) != reader.isTrue(b, p)) {
                if (found == what) {
                    return p;
                }
                found++;
            }
        }
        return what == NONE ? found : NONE;
    }

    // ---- the fleet

    public int hull(int floats, int gain, int coin) {
        if (!within(floats, 0, YEARS) || !within(gain, 1, 10) || !within(coin, 0, 1000)) {
            return BAD;
        }
        if (house.hulls.isFull()) {
            return FULL;
        }
        planner.forget();
        return house.hulls.add(floats, gain, coin, 0, 0);
    }

    public int docks(int many, int income) {
        if (!within(many, 0, 3) || !within(income, 0, 1000)) {
            return BAD;
        }
        planner.forget();
        house.docks = many;
        house.income = income;
        return 1;
    }

    public int plan(int what) {
        if (!within(what, NONE, Planner.DOCKINGS)) {
            return BAD;
        }
        planner.make();
        return planner.at(what);
    }

    public int clear() {
        planner.forget();
        return house.hulls.empty();
    }

    // ---- tests, tows, hands, storms

    public int test(int places, boolean wet) {
        if (!within(places, 0, ALL_PLACES)) {
            return BAD;
        }
        return house.tests.isFull() ? FULL : house.tests.add(places, wet ? 1 : 0, 0, 0, 0);
    }

    public int drain() {
        return house.tests.empty();
    }

    public int leaks(int what) {
        if (!within(what, 0, 1)) {
            return BAD;
        }
        leakFinder.find(house.tests);
        return what == 0 ? leakFinder.found : leakFinder.rivals;
    }

    public int wave(int day, int v) {
        if (!within(day, 0, DAYS - 1) || !within(v, 0, 100)) {
            return BAD;
        }
        int was = house.waves[day];
        house.waves[day] = v;
        return was;
    }

    public int tow(int n, int strength, int from) {
        if (!within(n, 1, 30) || !within(strength, 0, 100) || !within(from, 0, DAYS - 1)) {
            return BAD;
        }
        int calm = 0;
        for (int day = from; day < DAYS; day++) {
            calm = house.waves[day] > strength ? 0 : calm + 1;
            if (calm == n) {
                return day - n + 1;
            }
        }
        return NONE;
    }

    public int hand(int trades, int hours) {
        if (!within(trades, 0, ALL_TRADES) || !within(hours, 1, 60)) {
            return BAD;
        }
        return house.hands.isFull() ? FULL : house.hands.add(trades, hours, 0, 0, 0);
    }

    public int work(int trade, int hours, int worth) {
        if (!within(trade, 0, TRADES - 1) || !within(hours, 1, 100) || !within(worth, 1, 100)) {
            return BAD;
        }
        return house.works.isFull() ? FULL : house.works.add(trade, hours, worth, 0, 0);
    }

    public int done(int what) {
        if (!within(what, 0, 1)) {
            return BAD;
        }
        crew.choose(house);
        return what == 0 ? crew.set : crew.worth;
    }

    public int worst(int sea, int n, int what) {
        if (!within(sea, 1, 100000) || !mayPass(n) || !within(what, 0, 1)) {
            return BAD;
        }
        storms.seek(house, sea, n);
        return what == 0 ? storms.month : storms.sinking;
    }

    // ---- images

    public int image(int i) {
        if (!within(i, 0, IMAGES - 1)) {
            return BAD;
        }
        House kept = images[i];
        // a house is large: only an image that is kept has one, and has it for good
        if (kept == null) {
            kept = new House();
            images[i] = kept;
        }
        kept.copyFrom(house);
        return 1;
    }

    public int from(int i) {
        if (!within(i, 0, IMAGES - 1)) {
            return BAD;
        }
        House kept = images[i];
        if (kept == null) {
            return NO;
        }
        house.copyFrom(kept);
        planner.forget();
        return 1;
    }

    public int count(int what) {
        return within(what, 0, COUNTS - 1) ? house.countOf(what) : BAD;
    }

    public long digest() {
        long h = 307;
        for (int what = 0; what < COUNTS; what++) {
            h = mixed(h, house.countOf(what));
        }
        for (int s = 0; s < house.ships.rows; s++) {
            h = house.ships.mixedRow(h, s, House.CROWD + 1);
            for (int what = 0; what <= 6; what++) {
                h = mixed(h, house.shipAt(s, what));
            }
        }
        h = house.plates.mixedRows(h);
        h = house.readings.mixedRows(h);
        h = house.gauges.mixedRows(h);
        for (int t = 0; t < TEXTS; t++) {
            h = house.texts.mixedRow(h, t, House.SIGNS + house.texts.get(t, House.LENGTH));
        }
        return h;
    }

    private static boolean within(int v, int low, int high) {
        return v >= low && v <= high;
    }

    private static boolean isMonth(int v) {
        return within(v, 0, LAST_MONTH);
    }

    private static long mixed(long h, long v) {
        return 31 * h + v;
    }

    private boolean mayPass(int n) {
        return within(n, 1, MOST_MONTHS) && house.now + n <= LAST_MONTH;
    }

    /** Rows of numbers, as they come; a cell that is not there reads as 0, and is not written. */
    static final class Table {
        final int most, columns;
        final int[] cells;
        int rows;

        Table(int mostRows, int columnsOfRow) {
            most = Math.max(0, mostRows);
            columns = Math.max(0, columnsOfRow);
            cells = new int[most * columns];
        }

        boolean has(int row) {
            return row >= 0 && row < rows;
        }

        boolean isFull() {
            return rows >= most;
        }

        int get(int row, int column) {
            if (row < 0 || row >= rows || column < 0 || column >= columns) {
                return 0;
            }
            return cells[row * columns + column];
        }

        void put(int row, int column, int v) {
            if (row >= 0 && row < most && column >= 0 && column < columns) {
                cells[row * columns + column] = v;
            }
        }

        int swap(int row, int column, int v) {
            int was = get(row, column);
            put(row, column, v);
            return was;
        }

        int add(int a, int b, int c, int d, int e) {
            if (isFull()) {
                return FULL;
            }
            int row = rows;
            // what an older row has left here must not show
            for (int column = 0; column < columns; column++) {
                put(row, column, 0);
            }
            put(row, 0, a);
            put(row, 1, b);
            put(row, 2, c);
            put(row, 3, d);
            put(row, 4, e);
            rows++;
            return row;
        }

        int empty() {
            int were = rows;
            rows = 0;
            return were;
        }

        void copyFrom(Table other) {
            rows = Math.min(other.rows, most);
            System.arraycopy(other.cells, 0, cells, 0, Math.min(other.cells.length, cells.length));
        }

        long mixedRow(long h, int row, int firstColumns) {
            long mix = h;
            for (int column = 0; column < firstColumns; column++) {
                mix = mixed(mix, get(row, column));
            }
            return mix;
        }

        long mixedRows(long h) {
            long mix = h;
            for (int row = 0; row < rows; row++) {
                mix = mixedRow(mix, row, columns);
            }
            return mix;
        }
    }

    /** All that is told, but for the images. */
    static final class House {
        static final int AREA = 0, DEPTH = 1, WEIGHT = 2, PUMP = 3, CROWD = 4, WATER = 5, SANK = 6, LAID = 7;
        static final int CHARTER = 8, SHIP_COLUMNS = 9;
        static final int SHIP = 0, ZONE = 1, THICKNESS = 2, MASS = 3, MADE = 4, FIRST = 5, PLATE_COLUMNS = 6;
        static final int PLATE = 0, MONTH = 1, GAUGE = 2, NUMBER = 3, KNOWN = 4, READING_COLUMNS = 5;
        static final int BIAS = 0, RIGHT = 1, RIGHT_KNOWN = 2, GAUGE_COLUMNS = 3;
        static final int LENGTH = 0, SIGNS = 1;
        static final int FLOATS = 0, GAIN = 1, COIN = 2, HULL_COLUMNS = 3;
        static final int PLACES = 0, IS_WET = 1, TEST_COLUMNS = 2;
        static final int HAND_TRADES = 0, HAND_HOURS = 1, HAND_COLUMNS = 2;
        static final int TRADE = 0, HOURS = 1, WORTH = 2, WORK_COLUMNS = 3;
        private static final int MOST_INT = 2147483647;

        final Table ships = new Table(MOST_SHIPS, SHIP_COLUMNS);
        final Table plates = new Table(MOST_PLATES, PLATE_COLUMNS);
        final Table readings = new Table(MOST_READINGS, READING_COLUMNS);
        final Table gauges = new Table(GAUGES, GAUGE_COLUMNS);
        final Table texts = new Table(TEXTS, SIGNS + MOST_SIGNS);
        final Table hulls = new Table(MOST_HULLS, HULL_COLUMNS);
        final Table tests = new Table(MOST_TESTS, TEST_COLUMNS);
        final Table hands = new Table(MOST_HANDS, HAND_COLUMNS);
        final Table works = new Table(MOST_WORKS, WORK_COLUMNS);
        final int[] wears = new int[ZONES];
        final int[] seas = new int[MONTHS];
        final int[] waves = new int[DAYS];
        int now, bound, wire, docks, income;

        House() {
            for (int i = 0; i < GAUGES; i++) {
                gauges.add(0, 0, NONE, 0, 0);
            }
            for (int i = 0; i < TEXTS; i++) {
                texts.add(0, 0, 0, 0, 0);
            }
            wears[0] = 1;
            wears[1] = 4;
            wears[2] = 2;
            bound = 300;
            wire = 60000;
            docks = 1;
            income = 100;
        }

        void copyFrom(House other) {
            ships.copyFrom(other.ships);
            plates.copyFrom(other.plates);
            readings.copyFrom(other.readings);
            gauges.copyFrom(other.gauges);
            texts.copyFrom(other.texts);
            hulls.copyFrom(other.hulls);
            tests.copyFrom(other.tests);
            hands.copyFrom(other.hands);
            works.copyFrom(other.works);
            System.arraycopy(other.wears, 0, wears, 0, ZONES);
            System.arraycopy(other.seas, 0, seas, 0, MONTHS);
            System.arraycopy(other.waves, 0, waves, 0, DAYS);
            now = other.now;
            bound = other.bound;
            wire = other.wire;
            docks = other.docks;
            income = other.income;
        }

        boolean floats(int ship) {
            return ships.get(ship, SANK) == 0;
        }

        int platesOf(int ship) {
            int many = 0;
            for (int p = 0; p < plates.rows; p++) {
                if (plates.get(p, SHIP) == ship) {
                    many++;
                }
            }
            return many;
        }

        int layShip(int ship) {
            int many = 0;
            int mass = 0;
            for (int p = 0; p < plates.rows; p++) {
                if (plates.get(p, SHIP) == ship) {
                    plates.put(p, FIRST, 1);
                    mass += plates.get(p, MASS);
                    many++;
                }
            }
            ships.put(ship, LAID, mass);
            return many;
        }

        int firstStuff(int ship) {
            int laid = ships.get(ship, LAID);
            if (laid <= 0) {
                return NONE;
            }
            int still = 0;
            for (int p = 0; p < plates.rows; p++) {
                if (plates.get(p, SHIP) == ship && plates.get(p, FIRST) == 1) {
                    still += plates.get(p, MASS);
                }
            }
            return still * 1000 / laid;
        }

        int wearOf(int plate) {
            int zone = plates.get(plate, ZONE);
            return within(zone, 0, ZONES - 1) ? wears[zone] : 0;
        }

        int thicknessAfter(int plate, int months) {
            return Math.max(0, plates.get(plate, THICKNESS) - months * wearOf(plate));
        }

        int leaksAfter(int ship, int months) {
            int sum = 0;
            for (int p = 0; p < plates.rows; p++) {
                int zone = plates.get(p, ZONE);
                if (plates.get(p, SHIP) == ship && zone != DRY) {
                    int less = Math.max(0, bound - thicknessAfter(p, months));
                    sum += zone == WET ? 3 * less : less;
                }
            }
            return sum;
        }

        int pumped(int ship, int water, int wireLeft) {
            return Math.min(Math.min(water, ships.get(ship, PUMP)), wireLeft);
        }

        int liesWith(int ship, int water) {
            int area = ships.get(ship, AREA);
            if (area <= 0) {
                return 0;
            }
            return (ships.get(ship, WEIGHT) + water + ships.get(ship, CROWD)) / area;
        }

        boolean sinksWith(int ship, int water) {
            return liesWith(ship, water) > ships.get(ship, DEPTH);
        }

        int passMonths(int n) {
            int sunk = 0;
            for (int i = 0; i < n; i++) {
                sunk += passMonth();
            }
            return sunk;
        }

        private int passMonth() {
            int sea = now >= 0 && now < MONTHS ? seas[now] : 0;
            int wireLeft = wire;
            int sunk = 0;
            for (int s = 0; s < ships.rows; s++) {
                if (floats(s)) {
                    int water = ships.get(s, WATER) + leaksAfter(s, 1) + sea;
                    int taken = pumped(s, water, wireLeft);
                    wireLeft -= taken;
                    ships.put(s, WATER, water - taken);
                    wearPlates(s);
                    if (sinksWith(s, water - taken)) {
                        ships.put(s, SANK, 1);
                        sunk++;
                    }
                }
            }
            now++;
            return sunk;
        }

        private void wearPlates(int ship) {
            for (int p = 0; p < plates.rows; p++) {
                if (plates.get(p, SHIP) == ship) {
                    plates.put(p, THICKNESS, thicknessAfter(p, 1));
                }
            }
        }

        int shipAt(int ship, int what) {
            switch (what) {
                case 0: return ships.get(ship, WATER);
                case 1: return liesWith(ship, ships.get(ship, WATER));
                case 2: return ships.get(ship, SANK);
                case 3: return platesOf(ship);
                case 4: return firstStuff(ship);
                case 5: return leaksAfter(ship, 0);
                default: return ships.get(ship, CHARTER);
            }
        }

        /** The latest reading of a plate in a month or earlier that is known by k, or NONE. */
        private int latest(int plate, int month, int k) {
            int best = NONE;
            for (int r = 0; r < readings.rows; r++) {
                if (readings.get(r, PLATE) == plate && readings.get(r, KNOWN) <= k
                        && readings.get(r, MONTH) <= month
                        && (best == NONE || readings.get(r, MONTH) >= readings.get(best, MONTH))) {
                    best = r;
                }
            }
            return best;
        }

        /** A reading's number less the bias that is known at k; long, for a number may be any int. */
        private long corrected(int reading, int k) {
            int gauge = readings.get(reading, GAUGE);
            int known = gauges.get(gauge, RIGHT_KNOWN);
            boolean isRight = known != NONE && known <= k;
            return (long) readings.get(reading, NUMBER) - gauges.get(gauge, isRight ? RIGHT : BIAS);
        }

        int guessFor(int plate, int month, int k) {
            int reading = latest(plate, month, k);
            if (reading == NONE) {
                return NONE;
            }
            long worn = (long) wearOf(plate) * (month - readings.get(reading, MONTH));
            return (int) Math.min(MOST_INT, Math.max(0, corrected(reading, k) - worn));
        }

        int dueMonth(int plate, int k) {
            int reading = latest(plate, LAST_MONTH, k);
            // a guess is 0 at least, so nothing is below a bound of 0
            if (reading == NONE || bound == 0) {
                return NONE;
            }
            int start = readings.get(reading, MONTH);
            long over = corrected(reading, k) - bound;
            if (over < 0) {
                return start;
            }
            int wear = wearOf(plate);
            if (wear == 0) {
                return NONE;
            }
            long month = start + over / wear + 1;
            return month <= LAST_MONTH ? (int) month : NONE;
        }

        int firstDue(int ship, int k) {
            int best = NONE;
            int bestMonth = MONTHS;
            for (int p = 0; p < plates.rows; p++) {
                if (plates.get(p, SHIP) == ship) {
                    int month = dueMonth(p, k);
                    if (month != NONE && month < bestMonth) {
                        best = p;
                        bestMonth = month;
                    }
                }
            }
            return best;
        }

        int countOf(int what) {
            switch (what) {
                case 0: return ships.rows;
                case 1: return plates.rows;
                case 2: return readings.rows;
                case 3: return hulls.rows;
                case 4: return tests.rows;
                case 5: return hands.rows;
                case 6: return works.rows;
                case 7: return now;
                default: return sunkShips();
            }
        }

        private int sunkShips() {
            int sunk = 0;
            for (int s = 0; s < ships.rows; s++) {
                sunk += ships.get(s, SANK);
            }
            return sunk;
        }
    }

    /** Reads and works a text in one go, with a method for each word of its grammar. */
    static final class Reader {
        private static final int END = -1, CANNOT_STAND = 1, SEVENTH_DIGIT = 2, TOO_DEEP = 3;
        private static final int MOST_DIGITS = 6, MOST_OPEN = 8;
        private final House house;
        private int text, plate, length, place, flaw;

        Reader(House houseOfTexts) {
            house = houseOfTexts;
            flaw = NONE;
        }

        /** What a text tells of a plate; 0 and a flaw, if it has one. */
        long tell(int ofText, int ofPlate) {
            text = ofText;
            plate = ofPlate;
            length = house.texts.get(ofText, House.LENGTH);
            place = 0;
            flaw = NONE;
            long v = value(0);
            if (peek() != END) {
                fail(place, CANNOT_STAND);
            }
            return hasFlaw() ? 0 : v;
        }

        int flawOf(int ofText) {
            tell(ofText, NONE);
            return flaw;
        }

        boolean hasFlaw() {
            return flaw != NONE;
        }

        boolean isTrue(int ofText, int ofPlate) {
            return tell(ofText, ofPlate) != 0;
        }

        private void fail(int where, int kind) {
            if (flaw == NONE) {
                flaw = 10 * where + kind;
            }
        }

        private int signAt(int where) {
            return house.texts.get(text, House.SIGNS + where);
        }

        /** The next sign that is no blank. After a flaw there is none, so that all loops end. */
        private int peek() {
            if (hasFlaw()) {
                return END;
            }
            while (place < length && signAt(place) == ' ') {
                place++;
            }
            return place < length ? signAt(place) : END;
        }

        private long value(int open) {
            long v = both(open);
            for (int i = 0; i < MOST_SIGNS && peek() == '|'; i++) {
                place++;
                long w = both(open);
                v = v != 0 || w != 0 ? 1 : 0;
            }
            return v;
        }

        private long both(int open) {
            long v = held(open);
            for (int i = 0; i < MOST_SIGNS && peek() == '&'; i++) {
                place++;
                long w = held(open);
                v = v != 0 && w != 0 ? 1 : 0;
            }
            return v;
        }

        private long held(int open) {
            long v = sum(open);
            int sign = peek();
            if (sign != '<' && sign != '>' && sign != '=') {
                return v;
            }
            place++;
            long w = sum(open);
            boolean holds = sign == '<' ? v < w : sign == '>' ? v > w : v == w;
            return holds ? 1 : 0;
        }

        private long sum(int open) {
            long v = term(open);
            int sign = peek();
            for (int i = 0; i < MOST_SIGNS && (sign == '+' || sign == '-'); i++) {
                place++;
                long w = term(open);
                v = sign == '+' ? v + w : v - w;
                sign = peek();
            }
            return v;
        }

        private long term(int open) {
            long v = unit(open);
            int sign = peek();
            for (int i = 0; i < MOST_SIGNS && (sign == '*' || sign == '/'); i++) {
                place++;
                long w = unit(open);
                v = sign == '*' ? v * w : w == 0 ? 0 : v / w;
                sign = peek();
            }
            return v;
        }

        /** The signs ahead of a core are worked from behind, so that a row of them needs no recursion. */
        private long unit(int open) {
            int begin = place;
            int sign = peek();
            for (int i = 0; i < MOST_SIGNS && (sign == '!' || sign == '-'); i++) {
                place++;
                sign = peek();
            }
            int end = place;
            long v = core(open);
            for (int i = end - 1; i >= begin; i--) {
                if (signAt(i) == '!') {
                    v = v == 0 ? 1 : 0;
                } else if (signAt(i) == '-') {
                    v = -v;
                }
            }
            return v;
        }

        private long core(int open) {
            int sign = peek();
            if (sign >= '0' && sign <= '9') {
                return digits();
            }
            switch (sign) {
                case '(':
                    return inside(open);
                case 't': case 'y': case 'z': case 's': case 'f': case 'm':
                    place++;
                    return letter(sign);
                default:
                    fail(place, CANNOT_STAND);
                    return 0;
            }
        }

        private long inside(int open) {
            if (open >= MOST_OPEN) {
                fail(place, TOO_DEEP);
                return 0;
            }
            place++;
            long v = value(open + 1);
            if (peek() == ')') {
                place++;
            } else {
                fail(place, CANNOT_STAND);
            }
            return v;
        }

        private long digits() {
            int begin = place;
            long v = 0;
            while (place < length && signAt(place) >= '0' && signAt(place) <= '9') {
                v = 10 * v + (signAt(place) - '0');
                place++;
            }
            if (place - begin > MOST_DIGITS) {
                fail(begin, SEVENTH_DIGIT);
            }
            return v;
        }

        private long letter(int sign) {
            if (plate == NONE) {
                return 0;
            }
            switch (sign) {
                case 't': return house.plates.get(plate, House.THICKNESS);
                case 'y': return house.now - house.plates.get(plate, House.MADE);
                case 'z': return house.plates.get(plate, House.ZONE);
                case 's': return house.firstStuff(house.plates.get(plate, House.SHIP));
                case 'f': return house.plates.get(plate, House.FIRST);
                default: return house.plates.get(plate, House.MASS);
            }
        }
    }

    /** Tries a storm more in each month, on rows of its own: the house stays as it is. */
    static final class Storms {
        private final int[] leaks = new int[MOST_MONTHS * MOST_SHIPS];
        private final int[] water = new int[MOST_SHIPS];
        private final int[] sank = new int[MOST_SHIPS];
        int month, sinking;

        void seek(House house, int sea, int n) {
            int months = Math.min(n, MOST_MONTHS);
            int many = Math.min(house.ships.rows, MOST_SHIPS);
            // the leaks of a ship that floats are the same whatever the sea does
            for (int i = 0; i < months; i++) {
                for (int s = 0; s < many; s++) {
                    leaks[i * MOST_SHIPS + s] = house.leaksAfter(s, i + 1);
                }
            }
            month = house.now;
            sinking = 0;
            for (int i = 0; i < months; i++) {
                int sunk = sinkingWith(house, sea, i, months);
                if (sunk > sinking) {
                    sinking = sunk;
                    month = house.now + i;
                }
            }
        }

        private int sinkingWith(House house, int sea, int stormy, int months) {
            for (int s = 0; s < MOST_SHIPS; s++) {
                water[s] = house.ships.get(s, House.WATER);
                sank[s] = house.ships.get(s, House.SANK);
            }
            int sunk = 0;
            for (int i = 0; i < months; i++) {
                int at = house.now + i;
                int told = at >= 0 && at < MONTHS ? house.seas[at] : 0;
                sunk += pass(house, i, i == stormy ? told + sea : told);
            }
            return sunk;
        }

        private int pass(House house, int i, int sea) {
            int wireLeft = house.wire;
            int sunk = 0;
            int many = Math.min(house.ships.rows, MOST_SHIPS);
            for (int s = 0; s < many; s++) {
                if (sank[s] == 0) {
                    int full = water[s] + leaks[i * MOST_SHIPS + s] + sea;
                    int taken = house.pumped(s, full, wireLeft);
                    wireLeft -= taken;
                    water[s] = full - taken;
                    if (house.sinksWith(s, water[s])) {
                        sank[s] = 1;
                        sunk++;
                    }
                }
            }
            return sunk;
        }
    }

    /**
     * The plan. How often each ship was docked tells how long it floats and what coin is left: these numbers,
     * as one, are the state of a year, and the best that can still come of it is worked once.
     */
    static final class Planner {
        static final int LET_GO = 10, DOCKINGS = 11;
        private static final int SETS = 16, MOST_STATES = 10000, UNKNOWN = -1, YEAR_WORTH = 1000;
        private final int[] needs = new int[MOST_HULLS];
        private final int[] strides = new int[MOST_HULLS];
        private final int[] steps = new int[SETS];
        private final int[] coins = new int[SETS];
        private final int[] chosen = new int[YEARS];
        private final House house;
        private int[] bests = new int[0];
        private int states, years, letGo, dockings;
        private boolean isMade;

        Planner(House houseOfHulls) {
            house = houseOfHulls;
        }

        void forget() {
            isMade = false;
        }

        int at(int what) {
            if (what == LET_GO) {
                return letGo;
            }
            if (what == DOCKINGS) {
                return dockings;
            }
            return what >= 0 && what < YEARS ? chosen[what] : years;
        }

        void make() {
            if (isMade) {
                return;
            }
            isMade = true;
            layOut();
            // the row is large: only who asks for a plan has one
            if (bests.length == 0) {
                bests = new int[YEARS * MOST_STATES];
            }
            Arrays.fill(bests, 0, Math.max(0, Math.min(YEARS * states, bests.length)), UNKNOWN);
            int state = 0;
            for (int year = 0; year < YEARS; year++) {
                chosen[year] = leastBest(year, state);
                state += steps[chosen[year]];
            }
            sumUp(state);
        }

        private void layOut() {
            states = 1;
            for (int i = 0; i < MOST_HULLS; i++) {
                needs[i] = i < house.hulls.rows ? usefulDockings(i) : 0;
                strides[i] = states;
                states *= needs[i] + 1;
            }
            for (int set = 0; set < SETS; set++) {
                steps[set] = 0;
                coins[set] = 0;
                for (int i = 0; i < MOST_HULLS; i++) {
                    if ((set >> i & 1) == 1) {
                        steps[set] += strides[i];
                        coins[set] += house.hulls.get(i, House.COIN);
                    }
                }
            }
        }

        /** No plan with the fewest dockings docks a ship that floats by the end: 9 at most. */
        private int usefulDockings(int i) {
            int floats = house.hulls.get(i, House.FLOATS);
            int gain = house.hulls.get(i, House.GAIN);
            if (floats <= 0 || floats >= YEARS || gain <= 0) {
                return 0;
            }
            return (YEARS - floats + gain - 1) / gain;
        }

        private int timesDocked(int i, int state) {
            return strides[i] <= 0 || needs[i] < 0 ? 0 : state / strides[i] % (needs[i] + 1);
        }

        private int floatsTill(int i, int state) {
            return house.hulls.get(i, House.FLOATS) + timesDocked(i, state) * house.hulls.get(i, House.GAIN);
        }

        private int dockable(int year, int state) {
            int set = 0;
            for (int i = 0; i < MOST_HULLS; i++) {
                if (timesDocked(i, state) < needs[i] && floatsTill(i, state) > year) {
                    set |= 1 << i;
                }
            }
            return set;
        }

        private int coinLeft(int year, int state) {
            int left = house.income * (year + 1);
            for (int i = 0; i < MOST_HULLS; i++) {
                left -= timesDocked(i, state) * house.hulls.get(i, House.COIN);
            }
            return left;
        }

        private boolean mayDock(int set, int ready, int left) {
            return (set & ~ready) == 0 && Integer.bitCount(set) <= house.docks && coins[set] <= left;
        }

        /** The most that can come of a state; as deep as there are years. */
        private int best(int year, int state) {
            if (year >= YEARS) {
                return worthOf(state);
            }
            int at = year * states + state;
            if (at < 0 || at >= bests.length) {
                return 0;
            }
            if (bests[at] == UNKNOWN) {
                bests[at] = workedOut(year, state);
            }
            return bests[at];
        }

        private int workedOut(int year, int state) {
            int ready = dockable(year, state);
            int left = coinLeft(year, state);
            int most = 0;
            for (int set = 0; set < SETS; set++) {
                if (mayDock(set, ready, left)) {
                    most = Math.max(most, best(year + 1, state + steps[set]));
                }
            }
            return most;
        }

        private int leastBest(int year, int state) {
            int most = best(year, state);
            int ready = dockable(year, state);
            int left = coinLeft(year, state);
            for (int set = 0; set < SETS; set++) {
                if (mayDock(set, ready, left) && best(year + 1, state + steps[set]) == most) {
                    return set;
                }
            }
            return 0;
        }

        /** A year counts more than all dockings that there can be. */
        private int worthOf(int state) {
            int worth = 0;
            for (int i = 0; i < MOST_HULLS; i++) {
                worth += YEAR_WORTH * Math.min(YEARS, floatsTill(i, state)) - timesDocked(i, state);
            }
            return worth;
        }

        private void sumUp(int state) {
            years = 0;
            letGo = 0;
            dockings = 0;
            int many = Math.min(house.hulls.rows, MOST_HULLS);
            for (int i = 0; i < many; i++) {
                years += Math.min(YEARS, floatsTill(i, state));
                dockings += timesDocked(i, state);
                if (floatsTill(i, state) < YEARS) {
                    letGo |= 1 << i;
                }
            }
        }
    }

    /** The least set of places by which all tests come out as they did. */
    static final class LeakFinder {
        int found, rivals;

        void find(Table tests) {
            found = NONE;
            rivals = NONE;
            int likely = likelyPlaces(tests);
            for (int set = 0; set <= ALL_PLACES; set++) {
                if ((set & ~likely) == 0 && isNoLarger(set) && fits(tests, set)) {
                    if (found != NONE && Integer.bitCount(set) == Integer.bitCount(found)) {
                        rivals++;
                    } else {
                        found = set;
                        rivals = 0;
                    }
                }
            }
        }

        private boolean isNoLarger(int set) {
            return found == NONE || Integer.bitCount(set) <= Integer.bitCount(found);
        }

        /** A set with the fewest places has none that no wet test asks for, and none of a dry one. */
        private static int likelyPlaces(Table tests) {
            int wet = 0;
            int dry = 0;
            for (int i = 0; i < tests.rows; i++) {
                if (tests.get(i, House.IS_WET) == 1) {
                    wet |= tests.get(i, House.PLACES);
                } else {
                    dry |= tests.get(i, House.PLACES);
                }
            }
            return wet & ~dry;
        }

        private static boolean fits(Table tests, int set) {
            for (int i = 0; i < tests.rows; i++) {
                boolean isHit = (tests.get(i, House.PLACES) & set) != 0;
                if (isHit != (tests.get(i, House.IS_WET) == 1)) {
                    return false;
                }
            }
            return true;
        }
    }

    /**
     * The set of works with the greatest worth. Hands can do a set just if no group of trades
     * needs more hours than the hands with one of these trades have (Hall).
     */
    static final class Crew {
        private final int[] supply = new int[ALL_TRADES + 1];
        private final int[] need = new int[TRADES];
        int set, worth;

        void choose(House house) {
            supplyAll(house.hands);
            set = 0;
            worth = 0;
            for (int works = 0; works < 1 << house.works.rows; works++) {
                int sum = worthOf(house.works, works);
                if (sum > worth && canDo(house.works, works)) {
                    set = works;
                    worth = sum;
                }
            }
        }

        private void supplyAll(Table hands) {
            for (int group = 0; group <= ALL_TRADES; group++) {
                supply[group] = 0;
                for (int i = 0; i < hands.rows; i++) {
                    if ((hands.get(i, House.HAND_TRADES) & group) != 0) {
                        supply[group] += hands.get(i, House.HAND_HOURS);
                    }
                }
            }
        }

        private static int worthOf(Table works, int chosen) {
            int sum = 0;
            for (int i = 0; i < works.rows; i++) {
                if ((chosen >> i & 1) == 1) {
                    sum += works.get(i, House.WORTH);
                }
            }
            return sum;
        }

        private boolean canDo(Table works, int chosen) {
            needAll(works, chosen);
            for (int group = 0; group <= ALL_TRADES; group++) {
                int hours = 0;
                for (int t = 0; t < TRADES; t++) {
                    if ((group >> t & 1) == 1) {
                        hours += need[t];
                    }
                }
                if (hours > supply[group]) {
                    return false;
                }
            }
            return true;
        }

        private void needAll(Table works, int chosen) {
            Arrays.fill(need, 0);
            for (int i = 0; i < works.rows; i++) {
                int trade = works.get(i, House.TRADE);
                if ((chosen >> i & 1) == 1 && within(trade, 0, TRADES - 1)) {
                    need[trade] += works.get(i, House.HOURS);
                }
            }
        }
    }
}
