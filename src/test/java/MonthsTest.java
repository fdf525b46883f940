import java.util.ArrayList;
import java.util.List;
import java.util.Random;

/** Promises 10 and 39: months that go, and the worst storm, against a plain model of the document's words. */
final class MonthsTest {
    private MonthsTest() {
    }

    static void run() {
        refusals();
        byHand();
        sunkShipsRest();
        worstByHand();
        againstModel();
    }

    private static void refusals() {
        Check.promise(10);
        HullKeepers x = new HullKeepers();
        Check.due("months(0)", x.months(0), HullKeepers.BAD);
        Check.due("months(61)", x.months(61), HullKeepers.BAD);
        Check.due("months(-1)", x.months(-1), HullKeepers.BAD);
        Check.due("months(max)", x.months(Integer.MAX_VALUE), HullKeepers.BAD);
        for (int i = 0; i < 9; i++) {
            Check.due("months(60)", x.months(60), 0);
        }
        Check.due("months(60) to 600", x.months(60), HullKeepers.BAD);
        Check.due("now", x.count(7), 540);
        Check.promise(39);
        Check.due("worst to 600", x.worst(1, 60, 0), HullKeepers.BAD);
        Check.due("worst to 599", x.worst(1, 59, 0), 540);
        Check.promise(10);
        Check.due("months(59)", x.months(59), 0);
        Check.due("months(1)", x.months(1), HullKeepers.BAD);
        Check.due("now", x.count(7), 599);
        Check.promise(39);
        Check.due("worst at the end", x.worst(1, 1, 0), HullKeepers.BAD);
        HullKeepers y = new HullKeepers();
        Check.due("worst sea 0", y.worst(0, 1, 0), HullKeepers.BAD);
        Check.due("worst sea", y.worst(100001, 1, 0), HullKeepers.BAD);
        Check.due("worst n 0", y.worst(1, 0, 0), HullKeepers.BAD);
        Check.due("worst n", y.worst(1, 61, 0), HullKeepers.BAD);
        Check.due("worst n", y.worst(1, Integer.MAX_VALUE, 0), HullKeepers.BAD);
        Check.due("worst what", y.worst(1, 1, 2), HullKeepers.BAD);
        Check.due("worst what", y.worst(1, 1, -1), HullKeepers.BAD);
        Check.due("worst of none", y.worst(100000, 60, 0), 0);
        Check.due("worst of none", y.worst(100000, 60, 1), 0);
    }

    private static void byHand() {
        Check.promise(10);
        HullKeepers x = new HullKeepers();
        x.ship(10, 100, 900, 20);
        x.ship(10, 500, 10, 20);
        x.plate(0, 2, 302, 1, 0);
        x.plate(0, 1, 301, 1, 0);
        x.plate(0, 0, 1, 1, 0);
        x.months(1);
        Check.due("wear and leak of the month", x.plateAt(0, 2), 300);
        Check.due("wear", x.plateAt(1, 2), 297);
        Check.due("0 at least", x.plateAt(2, 2), 0);
        Check.due("all pumped", x.about(0, 0), 0);
        x.months(1);
        Check.due("0 at least", x.plateAt(2, 2), 0);
        x.storm(2, 50);
        x.wire(25);
        x.months(1);
        // ship 0: leaks 3 * 4 + 11 and 50 of the sea, 20 pumped; ship 1: 50, the 5 that are left pumped
        Check.due("water", x.about(0, 0), 53);
        Check.due("water", x.about(1, 0), 45);
        Check.due("lies", x.about(0, 1), 95);
        x.crowd(0, 43);
        Check.due("as deep as may be", x.months(1), 0);
        Check.due("water", x.about(0, 0), 53 + 3 * 6 + 15 - 20);
        Check.due("lies", x.about(0, 1), (900 + 66 + 43) / 10);
    }

    /** A ship that sank has no more months: its plates, water and pump rest. */
    private static void sunkShipsRest() {
        Check.promise(10);
        HullKeepers x = new HullKeepers();
        x.ship(10, 1, 500, 100);
        x.ship(10, 100, 10, 100);
        x.plate(0, 2, 200, 1, 0);
        x.wire(100);
        Check.due("sinks", x.months(1), 1);
        int water = x.about(0, 0);
        x.storm(1, 100);
        Check.due("sinks once", x.months(1), 0);
        Check.due("its plates", x.plateAt(0, 2), 198);
        Check.due("its water", x.about(0, 0), water);
        Check.due("the wire is the other's", x.about(1, 0), 0);
        x.crowd(0, 0);
        Check.due("it stays so", x.about(0, 2), 1);
    }

    private static void worstByHand() {
        Check.promise(39);
        HullKeepers x = new HullKeepers();
        x.ship(10, 10, 50, 0);
        x.ship(10, 20, 50, 5);
        x.storm(2, 100);
        long before = x.digest();
        // ship 1 sinks in no month but 2, where both seas come together
        Check.due("month", x.worst(66, 5, 0), 2);
        Check.due("ships", x.worst(66, 5, 1), 2);
        Check.due("first of like ones", x.worst(60, 2, 0), 0);
        Check.due("one sinks", x.worst(60, 2, 1), 1);
        Check.due("none sinks: the first month", x.worst(5, 2, 0), 0);
        Check.due("none sinks", x.worst(5, 2, 1), 0);
        Check.due("all stays", x.digest(), before);
    }

    private static void againstModel() {
        Random random = new Random(39);
        for (int run = 0; run < 600; run++) {
            HullKeepers x = new HullKeepers();
            Model m = new Model();
            fill(x, m, random);
            for (int step = 0; step < 3; step++) {
                int month = Math.min(599, m.now + random.nextInt(6));
                int sea = random.nextInt(3) == 0 ? 0 : random.nextInt(3000);
                x.storm(month, sea);
                m.seas[month] = sea;
                int n = 1 + random.nextInt(12);
                int more = 1 + random.nextInt(4000);
                Check.promise(39);
                int[] worst = m.worst(more, n);
                Check.due("worst month", x.worst(more, n, 0), worst[0]);
                Check.due("worst ships", x.worst(more, n, 1), worst[1]);
                Check.promise(10);
                Check.due("months", x.months(n), m.months(n));
                same(x, m);
            }
        }
    }

    private static void fill(HullKeepers x, Model m, Random random) {
        int ships = 1 + random.nextInt(6);
        for (int s = 0; s < ships; s++) {
            int[] ship = {10 + random.nextInt(60), 20 + random.nextInt(200), 1 + random.nextInt(500), random.nextInt(400)};
            x.ship(ship[0], ship[1], ship[2], ship[3]);
            m.ships.add(ship);
        }
        int plates = random.nextInt(97);
        for (int p = 0; p < plates; p++) {
            int[] plate = {random.nextInt(ships), random.nextInt(3), 250 + random.nextInt(120)};
            x.plate(plate[0], plate[1], plate[2], 1, 0);
            m.plates.add(plate);
        }
        m.wire = random.nextInt(1000);
        x.wire(m.wire);
        m.bound = random.nextInt(400);
        x.bound(m.bound);
        for (int z = 0; z < 3; z++) {
            m.wears[z] = random.nextInt(8);
            x.wear(z, m.wears[z]);
        }
        int crowded = random.nextInt(ships);
        m.crowds[crowded] = random.nextInt(1000);
        x.crowd(crowded, m.crowds[crowded]);
    }

    private static void same(HullKeepers x, Model m) {
        Check.due("now", x.count(7), m.now);
        for (int s = 0; s < m.ships.size(); s++) {
            Check.due("water", x.about(s, 0), m.water[s]);
            Check.due("lies", x.about(s, 1), m.lies(s));
            Check.due("sank", x.about(s, 2), m.sank[s] ? 1 : 0);
        }
        for (int p = 0; p < m.plates.size(); p++) {
            Check.due("thickness", x.plateAt(p, 2), m.plates.get(p)[2]);
        }
    }

    /** The document's months, told again in the plainest way. */
    private static final class Model {
        List<int[]> ships = new ArrayList<>();
        List<int[]> plates = new ArrayList<>();
        int[] seas = new int[600], wears = new int[3], crowds = new int[6], water = new int[6];
        boolean[] sank = new boolean[6];
        int now, wire, bound;

        Model copy() {
            Model c = new Model();
            c.ships = ships;
            for (int[] plate : plates) {
                c.plates.add(plate.clone());
            }
            c.seas = seas.clone();
            c.wears = wears;
            c.crowds = crowds;
            c.water = water.clone();
            c.sank = sank.clone();
            c.now = now;
            c.wire = wire;
            c.bound = bound;
            return c;
        }

        int lies(int s) {
            return (ships.get(s)[2] + water[s] + crowds[s]) / ships.get(s)[0];
        }

        int months(int n) {
            int sunk = 0;
            for (int i = 0; i < n; i++) {
                sunk += month();
            }
            return sunk;
        }

        int month() {
            int[] leaks = new int[6];
            for (int[] plate : plates) {
                if (!sank[plate[0]]) {
                    plate[2] = Math.max(0, plate[2] - wears[plate[1]]);
                    int factor = plate[1] == 0 ? 0 : plate[1] == 1 ? 1 : 3;
                    leaks[plate[0]] += plate[2] >= bound ? 0 : factor * (bound - plate[2]);
                }
            }
            int left = wire;
            int sunk = 0;
            for (int s = 0; s < ships.size(); s++) {
                if (!sank[s]) {
                    water[s] += leaks[s] + seas[now];
                    int wants = Math.min(water[s], ships.get(s)[3]);
                    int takes = Math.min(wants, left);
                    left -= takes;
                    water[s] -= takes;
                    if (lies(s) > ships.get(s)[1]) {
                        sank[s] = true;
                        sunk++;
                    }
                }
            }
            now++;
            return sunk;
        }

        int[] worst(int sea, int n) {
            int[] best = {now, -1};
            for (int i = 0; i < n; i++) {
                Model c = copy();
                c.seas[now + i] += sea;
                int sunk = c.months(n);
                if (sunk > best[1]) {
                    best = new int[] {now + i, sunk};
                }
            }
            return best;
        }
    }
}
