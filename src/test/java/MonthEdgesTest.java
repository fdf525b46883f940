/** Promises 9, 10 and 39: each sentence on months and storms that names a boundary has a method of its own here. */
final class MonthEdgesTest {
    private static final int BAD = HullKeepers.BAD, DRY = 0, LINE = 1, WET = 2;

    private MonthEdgesTest() {
    }

    static void run() {
        thicknessIsZeroAtLeast();
        leakByTheBound();
        thicknessThenIsThatBehindTheWear();
        pumpTakesNoMoreThanThereIs();
        pumpTakesNoMoreThanItCan();
        wireRunsOutInOrderOfNumbers();
        whatOneLeavesIsTheNexts();
        deeperThanItsDepth();
        pumpedAheadOfSinking();
        itStaysSo();
        howManySank();
        theLastMonth();
        manyMonthsAreMonthsOneByOne();
        aStormInItsMonthOnly();
        stormsNearTheEnds();
        worstTakesASeaMore();
        worstWithinTheseMonths();
        worstOfLikeOnesIsTheFirst();
        worstOfTheSunken();
        worstAtTheEnds();
        worstKnowsTheWire();
    }

    /** A ship that holds all water: what leaks can be read as its water. */
    private static HullKeepers tub() {
        HullKeepers x = new HullKeepers();
        x.ship(1000, 500, 1, 0);
        return x;
    }

    private static void thicknessIsZeroAtLeast() {
        Check.promise(10);
        int[] thickness = {49, 50, 51};
        int[] due = {0, 0, 1};
        HullKeepers x = tub();
        x.wear(LINE, 50);
        for (int t : thickness) {
            x.plate(0, LINE, t, 1, 0);
        }
        x.months(1);
        for (int p = 0; p < 3; p++) {
            Check.due("worn by 50", x.plateAt(p, 2), due[p]);
        }
        Check.due("leaks as of 0, 0 and 1", x.about(0, 0), 300 + 300 + 299);
        x.months(60);
        for (int p = 0; p < 3; p++) {
            Check.due("long after", x.plateAt(p, 2), 0);
        }
        Check.due("leaks as of 0", x.about(0, 0), 899 + 60 * 900);
    }

    private static void leakByTheBound() {
        Check.promise(10);
        int[] factor = {0, 1, 3};
        for (int zone = DRY; zone <= WET; zone++) {
            int[] bounds = {0, 99, 100, 101, 1000};
            int[] less = {0, 0, 0, 1, 900};
            for (int i = 0; i < bounds.length; i++) {
                HullKeepers x = tub();
                x.plate(0, zone, 100, 1, 0);
                x.wear(zone, 0);
                x.bound(bounds[i]);
                x.months(1);
                Check.due("leak in zone " + zone + ", bound " + bounds[i], x.about(0, 0), factor[zone] * less[i]);
                Check.due("leak as it is now", x.about(0, 5), factor[zone] * less[i]);
            }
        }
    }

    private static void thicknessThenIsThatBehindTheWear() {
        Check.promise(10);
        HullKeepers x = tub();
        x.plate(0, WET, 302, 1, 0);
        x.months(1);
        Check.due("worn to the bound: no leak", x.about(0, 0), 0);
        Check.due("nor is one told", x.about(0, 5), 0);
        x.months(1);
        Check.due("worn below it", x.about(0, 0), 6);
        HullKeepers y = tub();
        y.plate(0, WET, 300, 1, 0);
        y.months(1);
        Check.due("at the bound ahead of the wear", y.about(0, 0), 6);
    }

    /** A ship of a pump with a sea of 10 in month 0. */
    private static HullKeepers flooded(int pump, int sea) {
        HullKeepers x = new HullKeepers();
        x.ship(1000, 500, 1, pump);
        x.storm(0, sea);
        x.months(1);
        return x;
    }

    private static void pumpTakesNoMoreThanThereIs() {
        Check.promise(10);
        Check.due("a sea less than the pump", flooded(10, 9).about(0, 0), 0);
        Check.due("a sea as the pump", flooded(10, 10).about(0, 0), 0);
        Check.due("one more", flooded(10, 11).about(0, 0), 1);
        Check.due("no sea", flooded(10, 0).about(0, 0), 0);
        HullKeepers x = flooded(10, 25);
        int[] due = {15, 5, 0, 0};
        for (int water : due) {
            Check.due("month by month", x.about(0, 0), water);
            x.months(1);
        }
    }

    private static void pumpTakesNoMoreThanItCan() {
        Check.promise(10);
        Check.due("no pump", flooded(0, 10).about(0, 0), 10);
        Check.due("the largest", flooded(10000, 10001).about(0, 0), 1);
        Check.due("the largest sea", flooded(10000, 100000).about(0, 0), 90000);
        HullKeepers x = flooded(0, 10);
        x.months(60);
        Check.due("no pump: it stays", x.about(0, 0), 10);
    }

    private static void waters(int wire, int a, int b, int c) {
        HullKeepers x = new HullKeepers();
        for (int i = 0; i < 3; i++) {
            x.ship(1000, 500, 1, 10);
        }
        x.storm(0, 10);
        x.wire(wire);
        x.months(1);
        Check.due("wire " + wire + ", ship 0", x.about(0, 0), a);
        Check.due("wire " + wire + ", ship 1", x.about(1, 0), b);
        Check.due("wire " + wire + ", ship 2", x.about(2, 0), c);
    }

    private static void wireRunsOutInOrderOfNumbers() {
        Check.promise(10);
        waters(60000, 0, 0, 0);
        waters(30, 0, 0, 0);
        waters(29, 0, 0, 1);
        waters(21, 0, 0, 9);
        waters(20, 0, 0, 10);
        waters(19, 0, 1, 10);
        waters(10, 0, 10, 10);
        waters(9, 1, 10, 10);
        waters(1, 9, 10, 10);
        waters(0, 10, 10, 10);
    }

    /** What its ship wants: its water, its pump at most. */
    private static void whatOneLeavesIsTheNexts() {
        Check.promise(10);
        HullKeepers x = new HullKeepers();
        x.ship(1000, 500, 1, 3);
        x.ship(1000, 500, 1, 10000);
        x.ship(1000, 500, 1, 10000);
        x.wire(20);
        x.storm(0, 10);
        x.months(1);
        Check.due("its pump at most", x.about(0, 0), 7);
        Check.due("its water at most", x.about(1, 0), 0);
        Check.due("the 7 that are left", x.about(2, 0), 3);
        x.months(1);
        Check.due("the wire is whole again each month", x.about(0, 0), 4);
        Check.due("the wire is whole again each month", x.about(2, 0), 0);
        HullKeepers full = new HullKeepers();
        for (int i = 0; i < 6; i++) {
            full.ship(1000, 500, 1, 10000);
        }
        full.storm(0, 10000);
        full.months(1);
        for (int i = 0; i < 6; i++) {
            Check.due("the most wire is enough for all pumps", full.about(i, 0), 0);
        }
    }

    private static void deeperThanItsDepth() {
        Check.promise(10);
        int[] weights = {1000, 1009, 1010, 1011};
        int[] sinks = {0, 0, 1, 1};
        for (int i = 0; i < weights.length; i++) {
            HullKeepers x = new HullKeepers();
            x.ship(10, 100, weights[i], 0);
            Check.due("weight " + weights[i], x.months(1), sinks[i]);
            Check.due("whether it sank", x.about(0, 2), sinks[i]);
            HullKeepers y = new HullKeepers();
            y.ship(10, 100, 10, 0);
            y.crowd(0, weights[i] - 10);
            Check.due("with a crowd", y.months(1), sinks[i]);
            HullKeepers z = new HullKeepers();
            z.ship(10, 100, 10, 0);
            z.storm(0, weights[i] - 10);
            Check.due("with water", z.months(1), sinks[i]);
            HullKeepers w = new HullKeepers();
            w.ship(10, 100, 500, 0);
            w.crowd(0, weights[i] - 900);
            w.storm(0, 400);
            Check.due("all together", w.months(1), sinks[i]);
        }
    }

    private static void pumpedAheadOfSinking() {
        Check.promise(10);
        HullKeepers x = new HullKeepers();
        x.ship(10, 100, 10, 500);
        x.storm(0, 1499);
        Check.due("pumped to its depth, cut", x.months(1), 0);
        Check.due("lies", x.about(0, 1), 100);
        HullKeepers y = new HullKeepers();
        y.ship(10, 100, 10, 500);
        y.storm(0, 1500);
        Check.due("pumped to one deeper", y.months(1), 1);
        Check.due("its pump was used", y.about(0, 0), 1000);
        Check.due("lies", y.about(0, 1), 101);
    }

    private static void itStaysSo() {
        Check.promise(10);
        HullKeepers x = new HullKeepers();
        x.ship(10, 100, 10, 10000);
        x.crowd(0, 20000);
        Check.due("sinks", x.months(1), 1);
        x.crowd(0, 0);
        Check.due("lies above its depth now", x.about(0, 1), 1);
        Check.due("sinks no more", x.months(60), 0);
        Check.due("it stays so", x.about(0, 2), 1);
        Check.due("it stays so", x.count(8), 1);
    }

    private static void howManySank() {
        Check.promise(10);
        HullKeepers x = new HullKeepers();
        for (int i = 0; i < 6; i++) {
            x.ship(10, 100, 10 + i, 0);
        }
        x.storm(3, 999);
        Check.due("none till then", x.months(3), 0);
        Check.due("five of six", x.months(1), 5);
        Check.due("the least floats", x.about(0, 2), 0);
        Check.due("in all", x.count(8), 5);
        x.storm(9, 5);
        Check.due("the last of six within many months", x.months(60), 1);
        Check.due("in all", x.count(8), 6);
        Check.due("none is left", x.months(60), 0);
    }

    private static HullKeepers inMonth(int month) {
        HullKeepers x = new HullKeepers();
        x.ship(10, 500, 10, 0);
        x.plate(0, DRY, 5000, 1, 0);
        for (int m = 0; m < month; m += 60) {
            x.months(Math.min(60, month - m));
        }
        return x;
    }

    private static void theLastMonth() {
        Check.promise(10);
        HullKeepers x = inMonth(539);
        Check.due("60 to month 599", x.months(60), 0);
        Check.due("now", x.count(7), 599);
        Check.due("one more", x.months(1), BAD);
        Check.due("60 more", x.months(60), BAD);
        Check.due("now stays", x.count(7), 599);
        Check.due("no wear by what was refused", x.plateAt(0, 2), 5000 - 599);
        HullKeepers y = inMonth(540);
        Check.due("60 to month 600", y.months(60), BAD);
        Check.due("now stays", y.count(7), 540);
        Check.due("59", y.months(59), 0);
        HullKeepers z = inMonth(598);
        Check.due("2 to month 600", z.months(2), BAD);
        Check.due("1", z.months(1), 0);
        Check.due("now", z.count(7), 599);
    }

    private static void manyMonthsAreMonthsOneByOne() {
        Check.promise(10);
        HullKeepers many = storms();
        HullKeepers single = storms();
        int sank = 0;
        for (int i = 0; i < 60; i++) {
            sank += single.months(1);
        }
        Check.due("how many sank", many.months(60), sank);
        Check.due("all else", many.digest(), single.digest());
        Check.holds("some sank and some did not", sank > 0 && sank < 3);
    }

    private static HullKeepers storms() {
        HullKeepers x = new HullKeepers();
        x.ship(10, 100, 500, 20);
        x.ship(20, 50, 500, 30);
        x.ship(500, 500, 500, 100);
        for (int i = 0; i < 30; i++) {
            x.plate(i % 3, i % 3, 310 + i, 1, 0);
            x.storm(2 * i, 10 * i);
        }
        x.wire(110);
        return x;
    }

    private static void aStormInItsMonthOnly() {
        Check.promise(9);
        HullKeepers x = tub();
        x.storm(2, 7);
        x.storm(3, 5);
        x.storm(3, 0);
        int[] due = {0, 0, 0, 7, 7};
        for (int water : due) {
            Check.due("water", x.about(0, 0), water);
            x.months(1);
        }
        x.storm(0, 100);
        x.months(1);
        Check.due("a storm in a month that went", x.about(0, 0), 7);
        x.storm(x.count(7), 9);
        x.months(1);
        Check.due("a storm now", x.about(0, 0), 16);
    }

    private static void stormsNearTheEnds() {
        Check.promise(9);
        HullKeepers x = inMonth(0);
        x.storm(0, 3);
        x.storm(598, 4);
        x.storm(599, 100000);
        x.months(1);
        Check.due("in month 0", x.about(0, 0), 3);
        for (int i = 0; i < 9; i++) {
            x.months(60);
        }
        x.months(57);
        Check.due("ahead of month 598", x.about(0, 0), 3);
        Check.due("month 598 goes", x.months(1), 0);
        Check.due("in month 598", x.about(0, 0), 7);
        Check.due("month 599 never goes", x.months(1), BAD);
        Check.due("in month 599", x.about(0, 0), 7);
    }

    private static void worstIs(HullKeepers x, int sea, int n, int month, int sinking) {
        Check.due("month of the worst " + sea + " within " + n, x.worst(sea, n, 0), month);
        Check.due("ships of the worst " + sea + " within " + n, x.worst(sea, n, 1), sinking);
    }

    private static void worstTakesASeaMore() {
        Check.promise(39);
        HullKeepers x = new HullKeepers();
        x.ship(10, 100, 10, 10000);
        x.storm(4, 10500);
        Check.due("what was told stays", x.storm(4, 10500), 10500);
        worstIs(x, 499, 9, 0, 0);
        worstIs(x, 500, 9, 4, 1);
        worstIs(x, 10499, 9, 4, 1);
        // what is left of month 3 sinks it in month 4
        worstIs(x, 10500, 9, 3, 1);
        worstIs(x, 10999, 9, 3, 1);
        worstIs(x, 11000, 9, 0, 1);
        Check.due("what was told stays", x.storm(4, 10500), 10500);
    }

    private static void worstWithinTheseMonths() {
        Check.promise(39);
        HullKeepers x = new HullKeepers();
        x.ship(10, 100, 10, 10000);
        x.storm(4, 10500);
        worstIs(x, 500, 4, 0, 0);
        worstIs(x, 500, 5, 4, 1);
        HullKeepers y = new HullKeepers();
        y.ship(10, 100, 10, 0);
        y.storm(3, 500);
        y.storm(4, 499);
        worstIs(y, 1, 4, 0, 0);
        worstIs(y, 1, 5, 0, 1);
        y.months(1);
        worstIs(y, 1, 3, 1, 0);
        worstIs(y, 1, 4, 1, 1);
    }

    private static void worstOfLikeOnesIsTheFirst() {
        Check.promise(39);
        HullKeepers x = new HullKeepers();
        x.ship(10, 100, 10, 10000);
        x.ship(10, 200, 10, 10000);
        worstIs(x, 10999, 60, 0, 0);
        worstIs(x, 11000, 60, 0, 1);
        worstIs(x, 12000, 60, 0, 2);
        x.storm(7, 1000);
        worstIs(x, 11000, 60, 7, 2);
        x.storm(5, 1000);
        worstIs(x, 11000, 60, 5, 2);
        x.months(6);
        worstIs(x, 11000, 60, 7, 2);
        worstIs(x, 11000, 1, 6, 1);
    }

    private static void worstOfTheSunken() {
        Check.promise(39);
        HullKeepers x = Houses.withSunken();
        Check.due("one sank", x.count(8), 1);
        worstIs(x, 100000, 5, 1, 2);
        HullKeepers y = new HullKeepers();
        y.ship(10, 100, 2000, 0);
        worstIs(y, 1, 1, 0, 1);
        y.months(1);
        worstIs(y, 100000, 60, 1, 0);
        HullKeepers z = new HullKeepers();
        z.ship(10, 100, 900, 0);
        z.storm(5, 200);
        worstIs(z, 1, 60, 0, 1);
        Check.due("it floats still", z.about(0, 2), 0);
    }

    private static void worstAtTheEnds() {
        Check.promise(39);
        HullKeepers x = inMonth(598);
        x.storm(598, 4989);
        x.storm(599, 100000);
        worstIs(x, 10, 1, 598, 0);
        worstIs(x, 11, 1, 598, 1);
        Check.due("to month 600", x.worst(1, 2, 0), BAD);
        Check.due("to month 600", x.worst(1, 60, 1), BAD);
        x.months(1);
        Check.due("from month 599 on", x.worst(1, 1, 0), BAD);
        HullKeepers y = inMonth(539);
        worstIs(y, 100000, 60, 539, 1);
        Check.due("to month 600", inMonth(540).worst(1, 60, 0), BAD);
        HullKeepers z = inMonth(0);
        z.storm(59, 4990);
        worstIs(z, 9, 60, 0, 0);
        worstIs(z, 10, 59, 0, 0);
        worstIs(z, 10, 60, 0, 1);
    }

    /** A sea that uses up the wire sinks the ships behind. */
    private static void worstKnowsTheWire() {
        Check.promise(39);
        HullKeepers x = new HullKeepers();
        x.ship(10, 100, 10, 100);
        x.ship(10, 100, 10, 100);
        x.wire(100);
        worstIs(x, 1000, 9, 0, 1);
        worstIs(x, 999, 9, 0, 0);
        x.storm(1, 50);
        x.wire(99);
        worstIs(x, 949, 2, 0, 0);
        worstIs(x, 950, 1, 0, 0);
        worstIs(x, 950, 2, 0, 1);
        long before = x.digest();
        worstIs(x, 100000, 9, 0, 2);
        Check.due("all stays as it is", x.digest(), before);
    }
}
