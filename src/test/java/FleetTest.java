import java.util.Random;

/** Promises 27 to 30: the plan of docks and coin, against all ways tried one by one. */
final class FleetTest {
    private FleetTest() {
    }

    static void run() {
        hulls();
        docks();
        plans();
        clearing();
        againstAllWays();
        againstFewestDockings();
    }

    private static void hulls() {
        Check.promise(27);
        HullKeepers x = new HullKeepers();
        int[][] bad = {{-1, 1, 0}, {11, 1, 0}, {0, 0, 0}, {0, 11, 0}, {0, 1, -1}, {0, 1, 1001}};
        for (int[] b : bad) {
            Check.due("hull bad", x.hull(b[0], b[1], b[2]), HullKeepers.BAD);
        }
        Check.due("least", x.hull(0, 1, 0), 0);
        Check.due("most", x.hull(10, 10, 1000), 1);
        Check.due("hull", x.hull(5, 5, 5), 2);
        Check.due("hull", x.hull(5, 5, 5), 3);
        Check.due("full", x.hull(5, 5, 5), HullKeepers.FULL);
        Check.due("bad ahead of full", x.hull(11, 5, 5), HullKeepers.BAD);
        Check.due("count", x.count(3), 4);
    }

    private static void docks() {
        Check.promise(28);
        HullKeepers x = new HullKeepers();
        Check.due("bad", x.docks(-1, 0), HullKeepers.BAD);
        Check.due("bad", x.docks(4, 0), HullKeepers.BAD);
        Check.due("bad", x.docks(0, -1), HullKeepers.BAD);
        Check.due("bad", x.docks(0, 1001), HullKeepers.BAD);
        x.hull(5, 5, 100);
        Check.due("as at first", x.plan(-1), 10);
        Check.due("no income", x.docks(1, 0), 1);
        Check.due("no income, no docking", x.plan(-1), 5);
        Check.due("docks", x.docks(0, 1000), 1);
        Check.due("no dock", x.plan(-1), 5);
        Check.due("docks", x.docks(3, 19), 1);
        Check.due("too little coin while it floats", x.plan(-1), 5);
        Check.due("docks", x.docks(3, 20), 1);
        Check.due("just enough in year 4", x.plan(-1), 10);
        Check.due("just enough in year 4", x.plan(4), 1);
    }

    private static void plans() {
        Check.promise(29);
        HullKeepers x = new HullKeepers();
        Check.due("bad", x.plan(-2), HullKeepers.BAD);
        Check.due("bad", x.plan(12), HullKeepers.BAD);
        for (int what = -1; what <= 11; what++) {
            Check.due("plan of none", x.plan(what), 0);
        }
        x.hull(0, 10, 0);
        Check.due("one that never floats", x.plan(-1), 0);
        Check.due("let go", x.plan(10), 1);
        Check.due("no docking", x.plan(11), 0);
        x.hull(10, 10, 0);
        Check.due("one that floats anyhow", x.plan(-1), 10);
        Check.due("let go", x.plan(10), 1);
        Check.due("no docking", x.plan(11), 0);
        x.hull(1, 10, 100);
        Check.due("year 0 or never", x.plan(0), 4);
        Check.due("years", x.plan(-1), 20);
        Check.due("dockings", x.plan(11), 1);
    }

    private static void clearing() {
        Check.promise(30);
        HullKeepers x = new HullKeepers();
        Check.due("none", x.clear(), 0);
        x.hull(3, 3, 3);
        x.hull(3, 3, 3);
        x.docks(2, 7);
        x.plan(-1);
        Check.due("two", x.clear(), 2);
        Check.due("count", x.count(3), 0);
        Check.due("plan", x.plan(-1), 0);
        Check.due("anew", x.hull(5, 5, 14), 0);
        Check.due("docks and income stay", x.plan(4), 1);
    }

    private static void againstAllWays() {
        Check.promise(29);
        Random random = new Random(29);
        for (int run = 0; run < 60; run++) {
            int many = 1 + random.nextInt(3);
            int docks = many == 3 ? random.nextInt(2) : random.nextInt(3);
            same(random, many, docks);
        }
        for (int run = 0; run < 6; run++) {
            same(random, 4, 1);
        }
    }

    private static void same(Random random, int many, int docks) {
        HullKeepers x = new HullKeepers();
        int income = random.nextInt(300);
        x.docks(docks, income);
        Ways ways = new Ways(many, docks, income);
        for (int i = 0; i < many; i++) {
            ways.till[i] = random.nextInt(8);
            ways.gain[i] = 1 + random.nextInt(4);
            ways.coin[i] = random.nextInt(400);
            x.hull(ways.till[i], ways.gain[i], ways.coin[i]);
        }
        ways.go(0, 0, 0);
        Check.due("years", x.plan(-1), ways.bestYears);
        Check.due("dockings", x.plan(11), ways.bestDockings);
        for (int year = 0; year < 10; year++) {
            Check.due("year " + year, x.plan(year), ways.best[year]);
        }
        Check.due("let go", x.plan(10), ways.letGo);
    }

    /** All ways, one by one, in the order of their sets: the first of the best is the least. */
    private static final class Ways {
        final int[] till, gain, coin, now = new int[10], best = new int[10];
        final int many, docks, income;
        int bestYears = -1, bestDockings, letGo;

        Ways(int many, int docks, int income) {
            this.many = many;
            this.docks = docks;
            this.income = income;
            till = new int[many];
            gain = new int[many];
            coin = new int[many];
        }

        void go(int year, int left, int dockings) {
            if (year == 10) {
                end(dockings);
                return;
            }
            for (int set = 0; set < 1 << many; set++) {
                int cost = 0;
                boolean may = Integer.bitCount(set) <= docks;
                for (int i = 0; i < many; i++) {
                    if ((set >> i & 1) == 1) {
                        cost += coin[i];
                        may &= till[i] > year;
                    }
                }
                if (may && cost <= left + income) {
                    now[year] = set;
                    change(set, 1);
                    go(year + 1, left + income - cost, dockings + Integer.bitCount(set));
                    change(set, -1);
                }
            }
        }

        void change(int set, int sign) {
            for (int i = 0; i < many; i++) {
                if ((set >> i & 1) == 1) {
                    till[i] += sign * gain[i];
                }
            }
        }

        void end(int dockings) {
            int years = 0;
            int gone = 0;
            for (int i = 0; i < many; i++) {
                years += Math.min(10, till[i]);
                gone |= till[i] > 9 ? 0 : 1 << i;
            }
            if (years > bestYears || years == bestYears && dockings < bestDockings) {
                bestYears = years;
                bestDockings = dockings;
                letGo = gone;
                System.arraycopy(now, 0, best, 0, 10);
            }
        }
    }

    /** With docks and coin enough for all, each ship takes the fewest dockings that carry it. */
    private static void againstFewestDockings() {
        Check.promise(29);
        for (int till = 1; till <= 10; till++) {
            for (int gain = 1; gain <= 10; gain++) {
                HullKeepers x = new HullKeepers();
                x.docks(3, 1000);
                for (int i = 0; i < 3; i++) {
                    x.hull(till, gain, 333);
                }
                int each = (10 - till + gain - 1) / gain;
                Check.due("years", x.plan(-1), 30);
                Check.due("dockings", x.plan(11), 3 * each);
                Check.due("let go", x.plan(10), 0);
                x.hull(till, gain, 0);
                Check.holds("a fourth ship, three docks", x.plan(-1) >= 30 + till);
            }
        }
    }
}
