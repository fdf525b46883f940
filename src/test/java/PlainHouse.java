import java.util.ArrayList;
import java.util.List;

/**
 * The document's calls told again in the plainest way, without regard to room or speed, and in other ways than the
 * class goes where there are others: PlainRunsTest holds the class against it, call by call.
 */
final class PlainHouse {
    private static final int NONE = -1, BAD = -2, NO = -3, FULL = -4, LAST_MONTH = 599;
    private static final int[] LEAK_BY_ZONE = {0, 1, 3};

    private static class Told implements Cloneable {
        @Override
        protected Told clone() {
            try {
                return (Told) super.clone();
            } catch (CloneNotSupportedException e) {
                throw new AssertionError(e);
            }
        }
    }

    private static final class Ship extends Told {
        int area, depth, weight, pump, crowd, water, massLaid, charter = NONE;
        boolean isLaid, sank;
    }

    private static final class Plate extends Told {
        int ship, zone, thickness, mass, made;
        boolean isFirst;
    }

    private static final class Gauge extends Told {
        int bias, right, known = NONE;
    }

    private List<Ship> ships = new ArrayList<>();
    private List<Plate> plates = new ArrayList<>();
    private List<int[]> readings = new ArrayList<>();
    private List<Gauge> gauges = new ArrayList<>();
    private List<String> texts = new ArrayList<>(List.of("", "", "", ""));
    private List<int[]> hulls = new ArrayList<>();
    private List<int[]> tests = new ArrayList<>();
    private List<int[]> hands = new ArrayList<>();
    private List<int[]> works = new ArrayList<>();
    private int[] wears = {1, 4, 2}, seas = new int[LAST_MONTH + 1], waves = new int[90];
    private int now, bound = 300, wire = 60000, docks = 1, income = 100;
    private final PlainHouse[] images = new PlainHouse[2];

    PlainHouse() {
        for (int i = 0; i < 4; i++) {
            gauges.add(new Gauge());
        }
    }

    /** All that is told, but for the images. */
    private void takeFrom(PlainHouse other) {
        ships = copies(other.ships);
        plates = copies(other.plates);
        gauges = copies(other.gauges);
        readings = new ArrayList<>(other.readings);
        texts = new ArrayList<>(other.texts);
        hulls = new ArrayList<>(other.hulls);
        tests = new ArrayList<>(other.tests);
        hands = new ArrayList<>(other.hands);
        works = new ArrayList<>(other.works);
        wears = other.wears.clone();
        seas = other.seas.clone();
        waves = other.waves.clone();
        now = other.now;
        bound = other.bound;
        wire = other.wire;
        docks = other.docks;
        income = other.income;
    }

    @SuppressWarnings("unchecked")
    private static <T extends Told> List<T> copies(List<T> told) {
        List<T> copies = new ArrayList<>();
        for (T one : told) {
            copies.add((T) one.clone());
        }
        return copies;
    }

    private static boolean out(int v, int least, int most) {
        return v < least || v > most;
    }

    private boolean noShip(int ship) {
        return out(ship, 0, ships.size() - 1);
    }

    private boolean noPlate(int plate) {
        return out(plate, 0, plates.size() - 1);
    }

    private static boolean noMonth(int month) {
        return out(month, 0, LAST_MONTH);
    }

    private static boolean noText(int text) {
        return out(text, 0, 3);
    }

    private static <T> int add(List<T> to, T what, int most) {
        if (to.size() == most) {
            return FULL;
        }
        to.add(what);
        return to.size() - 1;
    }

    private static int change(int[] at, int i, int v) {
        int was = at[i];
        at[i] = v;
        return was;
    }

    // ---- ships, plates, months

    public int ship(int area, int depth, int weight, int pump) {
        if (out(area, 10, 1000) || out(depth, 1, 500) || out(weight, 1, 200000) || out(pump, 0, 10000)) {
            return BAD;
        }
        Ship s = new Ship();
        s.area = area;
        s.depth = depth;
        s.weight = weight;
        s.pump = pump;
        return add(ships, s, 6);
    }

    public int plate(int ship, int zone, int thickness, int mass, int made) {
        if (noShip(ship) || out(zone, 0, 2) || out(thickness, 1, 5000) || out(mass, 1, 1000) || out(made, -6000, 0)) {
            return BAD;
        }
        Plate p = new Plate();
        p.ship = ship;
        p.zone = zone;
        p.thickness = thickness;
        p.mass = mass;
        p.made = made;
        return add(plates, p, 96);
    }

    private List<Plate> platesOf(int ship) {
        List<Plate> of = new ArrayList<>();
        for (Plate p : plates) {
            if (p.ship == ship) {
                of.add(p);
            }
        }
        return of;
    }

    public int lay(int ship) {
        if (noShip(ship)) {
            return BAD;
        }
        Ship s = ships.get(ship);
        List<Plate> of = platesOf(ship);
        if (s.isLaid || of.isEmpty()) {
            return NO;
        }
        s.isLaid = true;
        for (Plate p : of) {
            p.isFirst = true;
            s.massLaid += p.mass;
        }
        return of.size();
    }

    public int wear(int zone, int v) {
        return out(zone, 0, 2) || out(v, 0, 50) ? BAD : change(wears, zone, v);
    }

    public int bound(int v) {
        if (out(v, 0, 1000)) {
            return BAD;
        }
        int was = bound;
        bound = v;
        return was;
    }

    public int wire(int v) {
        if (out(v, 0, 60000)) {
            return BAD;
        }
        int was = wire;
        wire = v;
        return was;
    }

    public int crowd(int ship, int v) {
        if (noShip(ship) || out(v, 0, 20000)) {
            return BAD;
        }
        int was = ships.get(ship).crowd;
        ships.get(ship).crowd = v;
        return was;
    }

    public int storm(int month, int sea) {
        return noMonth(month) || out(sea, 0, 100000) ? BAD : change(seas, month, sea);
    }

    private int leaksOf(int ship) {
        int sum = 0;
        for (Plate p : platesOf(ship)) {
            sum += p.thickness >= bound ? 0 : LEAK_BY_ZONE[p.zone] * (bound - p.thickness);
        }
        return sum;
    }

    private int lies(Ship s) {
        return (s.weight + s.water + s.crowd) / s.area;
    }

    private int sunken() {
        int sunken = 0;
        for (Ship s : ships) {
            sunken += s.sank ? 1 : 0;
        }
        return sunken;
    }

    private void month() {
        int left = wire;
        for (Plate p : plates) {
            p.thickness = ships.get(p.ship).sank ? p.thickness : Math.max(0, p.thickness - wears[p.zone]);
        }
        for (int i = 0; i < ships.size(); i++) {
            Ship s = ships.get(i);
            if (s.sank) {
                continue;
            }
            s.water += leaksOf(i) + seas[now];
            int pumped = Math.min(left, Math.min(s.pump, s.water));
            s.water -= pumped;
            left -= pumped;
            s.sank = lies(s) > s.depth;
        }
        now++;
    }

    public int months(int n) {
        if (out(n, 1, 60) || now + n > LAST_MONTH) {
            return BAD;
        }
        int before = sunken();
        for (int i = 0; i < n; i++) {
            month();
        }
        return sunken() - before;
    }

    private int firstStuff(int ship) {
        int still = 0;
        for (Plate p : platesOf(ship)) {
            still += p.isFirst ? p.mass : 0;
        }
        return ships.get(ship).isLaid ? 1000 * still / ships.get(ship).massLaid : NONE;
    }

    public int about(int ship, int what) {
        if (noShip(ship) || out(what, 0, 6)) {
            return BAD;
        }
        Ship s = ships.get(ship);
        int[] all = {s.water, lies(s), s.sank ? 1 : 0, platesOf(ship).size(), firstStuff(ship), leaksOf(ship),
            s.charter};
        return all[what];
    }

    public int plateAt(int plate, int what) {
        if (noPlate(plate) || out(what, 0, 5)) {
            return -10000;
        }
        Plate p = plates.get(plate);
        return new int[] {p.ship, p.zone, p.thickness, p.mass, p.made, p.isFirst ? 1 : 0}[what];
    }

    public int replace(int plate, int thickness) {
        if (noPlate(plate) || out(thickness, 1, 5000)) {
            return BAD;
        }
        Plate p = plates.get(plate);
        Ship s = ships.get(p.ship);
        if (s.sank || s.charter != NONE && !isTruth(s.charter, plate)) {
            return NO;
        }
        p.thickness = thickness;
        p.made = now;
        p.isFirst = false;
        return 1;
    }

    public int move(int plate, int ship) {
        if (noPlate(plate) || noShip(ship) || plates.get(plate).ship == ship) {
            return BAD;
        }
        Plate p = plates.get(plate);
        if (ships.get(p.ship).sank || ships.get(ship).sank) {
            return NO;
        }
        p.ship = ship;
        p.isFirst = false;
        return 1;
    }

    // ---- readings, texts

    public int reading(int plate, int month, int gauge, int v, int known) {
        if (noPlate(plate) || out(month, 0, now) || out(gauge, 0, 3) || out(known, month, LAST_MONTH)) {
            return BAD;
        }
        return add(readings, new int[] {plate, month, gauge, v, known}, 150);
    }

    public int bias(int gauge, int v) {
        if (out(gauge, 0, 3) || out(v, -100, 100)) {
            return -1000;
        }
        Gauge g = gauges.get(gauge);
        if (g.known != NONE) {
            return -2000;
        }
        int was = g.bias;
        g.bias = v;
        return was;
    }

    public int right(int gauge, int v, int known) {
        if (out(gauge, 0, 3) || out(v, -100, 100) || noMonth(known)) {
            return BAD;
        }
        Gauge g = gauges.get(gauge);
        if (g.known != NONE) {
            return NO;
        }
        g.right = v;
        g.known = known;
        return 1;
    }

    /** The latest reading by then: months from behind, numbers from behind. */
    private int[] latest(int plate, int month, int k) {
        for (int m = month; m >= 0; m--) {
            for (int r = readings.size() - 1; r >= 0; r--) {
                int[] reading = readings.get(r);
                if (reading[0] == plate && reading[1] == m && reading[4] <= k) {
                    return reading;
                }
            }
        }
        return null;
    }

    private long guessBy(int[] reading, int month, int k) {
        Gauge g = gauges.get(reading[2]);
        long v = (long) reading[3] - (g.known != NONE && g.known <= k ? g.right : g.bias);
        for (int m = reading[1]; m < month; m++) {
            v -= wears[plates.get(reading[0]).zone];
        }
        return Math.max(0, v);
    }

    public int guess(int plate, int month, int k) {
        if (noPlate(plate) || noMonth(month) || noMonth(k)) {
            return BAD;
        }
        int[] reading = latest(plate, month, k);
        return reading == null ? NONE : (int) Math.min(Integer.MAX_VALUE, guessBy(reading, month, k));
    }

    public int due(int plate, int k) {
        if (noPlate(plate) || noMonth(k)) {
            return BAD;
        }
        int[] reading = latest(plate, LAST_MONTH, k);
        for (int m = reading == null ? LAST_MONTH + 1 : reading[1]; m <= LAST_MONTH; m++) {
            if (guessBy(reading, m, k) < bound) {
                return m;
            }
        }
        return NONE;
    }

    public int first(int ship, int k) {
        if (noShip(ship) || noMonth(k)) {
            return BAD;
        }
        for (int m = 0; m <= LAST_MONTH; m++) {
            for (int p = 0; p < plates.size(); p++) {
                if (plates.get(p).ship == ship && due(p, k) == m) {
                    return p;
                }
            }
        }
        return NONE;
    }

    public int write(int text, int character) {
        if (noText(text) || out(character, 0, 127)) {
            return BAD;
        }
        if (texts.get(text).length() == 60) {
            return FULL;
        }
        texts.set(text, texts.get(text) + (char) character);
        return texts.get(text).length();
    }

    public int erase(int text) {
        return noText(text) ? BAD : texts.set(text, "").length();
    }

    public int fault(int text) {
        return noText(text) ? BAD : TextsTest.faultOf(texts.get(text));
    }

    public long tells(int text, int plate) {
        if (noText(text) || noPlate(plate)) {
            return -2000000000000000000L;
        }
        return fault(text) == NONE ? worked(texts.get(text).replace(" ", ""), plate) : -3000000000000000000L;
    }

    /** Cuts a text without a fault at its last operator of the weakest kind that no parenthesis holds. */
    private long worked(String text, int plate) {
        for (String kind : new String[] {"|", "&", "<>=", "+-", "*/"}) {
            int open = 0;
            for (int i = text.length() - 1; i > 0; i--) {
                char c = text.charAt(i);
                open += c == ')' ? 1 : c == '(' ? -1 : 0;
                if (open == 0 && kind.indexOf(c) >= 0 && "|&<>=+-*/!(".indexOf(text.charAt(i - 1)) < 0) {
                    return worked(c, worked(text.substring(0, i), plate), worked(text.substring(i + 1), plate));
                }
            }
        }
        char c = text.charAt(0);
        if (c == '!') {
            return worked(text.substring(1), plate) == 0 ? 1 : 0;
        }
        if (c == '-') {
            return -worked(text.substring(1), plate);
        }
        if (c == '(') {
            return worked(text.substring(1, text.length() - 1), plate);
        }
        return Character.isDigit(c) ? Long.parseLong(text) : letter(c, plate);
    }

    private static long worked(char operator, long v, long w) {
        return TextsTest.worked(operator, v, w);
    }

    private long letter(char c, int plate) {
        Plate p = plates.get(plate);
        switch (c) {
            case 't': return p.thickness;
            case 'y': return now - p.made;
            case 'z': return p.zone;
            case 's': return firstStuff(p.ship);
            case 'f': return p.isFirst ? 1 : 0;
            default: return p.mass;
        }
    }

    private boolean isTruth(int text, int plate) {
        return fault(text) == NONE && tells(text, plate) != 0;
    }

    public int charter(int ship, int text) {
        if (noShip(ship) || text != NONE && noText(text)) {
            return -10;
        }
        int was = ships.get(ship).charter;
        ships.get(ship).charter = text;
        return was;
    }

    public int unlike(int ship, int a, int b, int what) {
        if (noShip(ship) || noText(a) || noText(b) || what < NONE) {
            return BAD;
        }
        List<Integer> of = new ArrayList<>();
        for (int p = 0; p < plates.size(); p++) {
            if (plates.get(p).ship == ship && isTruth(a, p) != isTruth(b, p)) {
                of.add(p);
            }
        }
        return what == NONE ? of.size() : what < of.size() ? of.get(what) : NONE;
    }

    // ---- the fleet

    public int hull(int floats, int gain, int coin) {
        if (out(floats, 0, 10) || out(gain, 1, 10) || out(coin, 0, 1000)) {
            return BAD;
        }
        return add(hulls, new int[] {floats, gain, coin}, 4);
    }

    public int docks(int many, int income) {
        if (out(many, 0, 3) || out(income, 0, 1000)) {
            return BAD;
        }
        docks = many;
        this.income = income;
        return 1;
    }

    public int plan(int what) {
        return out(what, NONE, 11) ? BAD : PlainPlan.of(hulls, docks, income).at(what);
    }

    public int clear() {
        int were = hulls.size();
        hulls.clear();
        return were;
    }

    // ---- tests, tows, hands, storms

    public int test(int places, boolean wet) {
        return out(places, 0, 4095) ? BAD : add(tests, new int[] {places, wet ? 1 : 0}, 20);
    }

    public int drain() {
        int were = tests.size();
        tests.clear();
        return were;
    }

    public int leaks(int what) {
        if (out(what, 0, 1)) {
            return BAD;
        }
        for (int many = 0; many <= 12; many++) {
            List<Integer> found = new ArrayList<>();
            for (int set = 0; set < 4096; set++) {
                boolean fits = Integer.bitCount(set) == many;
                for (int[] t : tests) {
                    fits &= ((t[0] & set) != 0) == (t[1] == 1);
                }
                if (fits) {
                    found.add(set);
                }
            }
            if (!found.isEmpty()) {
                return what == 0 ? found.get(0) : found.size() - 1;
            }
        }
        return NONE;
    }

    public int wave(int day, int v) {
        return out(day, 0, 89) || out(v, 0, 100) ? BAD : change(waves, day, v);
    }

    public int tow(int n, int strength, int from) {
        if (out(n, 1, 30) || out(strength, 0, 100) || out(from, 0, 89)) {
            return BAD;
        }
        for (int start = from; start + n <= 90; start++) {
            boolean calm = true;
            for (int day = start; day < start + n; day++) {
                calm &= waves[day] <= strength;
            }
            if (calm) {
                return start;
            }
        }
        return NONE;
    }

    public int hand(int trades, int hours) {
        return out(trades, 0, 31) || out(hours, 1, 60) ? BAD : add(hands, new int[] {trades, hours}, 8);
    }

    public int work(int trade, int hours, int worth) {
        if (out(trade, 0, 4) || out(hours, 1, 100) || out(worth, 1, 100)) {
            return BAD;
        }
        return add(works, new int[] {trade, hours, worth}, 8);
    }

    public int done(int what) {
        if (out(what, 0, 1)) {
            return BAD;
        }
        int[][] handRows = hands.toArray(new int[0][]);
        int[][] workRows = works.toArray(new int[0][]);
        int best = 0;
        int most = 0;
        for (int set = 0; set < 1 << workRows.length; set++) {
            int worth = 0;
            for (int i = 0; i < workRows.length; i++) {
                worth += (set >> i & 1) * workRows[i][2];
            }
            if (worth > most && FindingTest.canDo(handRows, workRows, set)) {
                best = set;
                most = worth;
            }
        }
        return what == 0 ? best : most;
    }

    public int worst(int sea, int n, int what) {
        if (out(sea, 1, 100000) || out(n, 1, 60) || now + n > LAST_MONTH || out(what, 0, 1)) {
            return BAD;
        }
        int[] best = {now, 0};
        for (int month = now; month < now + n; month++) {
            PlainHouse other = new PlainHouse();
            other.takeFrom(this);
            other.seas[month] += sea;
            int sunk = other.months(n);
            best = sunk > best[1] ? new int[] {month, sunk} : best;
        }
        return best[what];
    }

    // ---- images

    public int image(int i) {
        if (out(i, 0, 1)) {
            return BAD;
        }
        images[i] = new PlainHouse();
        images[i].takeFrom(this);
        return 1;
    }

    public int from(int i) {
        if (out(i, 0, 1)) {
            return BAD;
        }
        if (images[i] == null) {
            return NO;
        }
        takeFrom(images[i]);
        return 1;
    }

    public int count(int what) {
        int[] all = {ships.size(), plates.size(), readings.size(), hulls.size(), tests.size(), hands.size(),
            works.size(), now, sunken()};
        return out(what, 0, 8) ? BAD : all[what];
    }

    public long digest() {
        List<Integer> all = new ArrayList<>();
        for (int what = 0; what <= 8; what++) {
            all.add(count(what));
        }
        for (int s = 0; s < ships.size(); s++) {
            Ship ship = ships.get(s);
            all.addAll(List.of(ship.area, ship.depth, ship.weight, ship.pump, ship.crowd));
            for (int what = 0; what <= 6; what++) {
                all.add(about(s, what));
            }
        }
        for (int p = 0; p < plates.size(); p++) {
            for (int what = 0; what <= 5; what++) {
                all.add(plateAt(p, what));
            }
        }
        for (int[] r : readings) {
            all.addAll(List.of(r[0], r[1], r[2], r[3], r[4]));
        }
        for (Gauge g : gauges) {
            all.addAll(List.of(g.bias, g.right, g.known));
        }
        for (String text : texts) {
            all.add(text.length());
            for (char c : text.toCharArray()) {
                all.add((int) c);
            }
        }
        long h = 307;
        for (int v : all) {
            h = 31 * h + v;
        }
        return h;
    }
}
