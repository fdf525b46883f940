/** Promises 15 to 20: each sentence on readings and gauges that names a boundary has a method of its own here. */
final class ReadingEdgesTest {
    private static final int NONE = HullKeepers.NONE, BAD = HullKeepers.BAD, NO = HullKeepers.NO;
    private static final int MAX = Integer.MAX_VALUE, MIN = Integer.MIN_VALUE;
    private static final int DRY = 0, LINE = 1, WET = 2;

    private ReadingEdgesTest() {
    }

    static void run() {
        inAMonthNowOrEarlier();
        knownNoEarlier();
        readingsOfTheSunken();
        biasFromTheFirst();
        putRightOnce();
        knownByThen();
        latestOfMonthsThenOfNumbers();
        lessTheWearForEachMonthBetween();
        guessIsZeroAtLeast();
        guessAtTheLastMonths();
        guessOfAnyInt();
        dueFromItsReadingOn();
        dueByMonth599();
        dueOfABoundOfZero();
        dueIsByTheWearNow();
        dueOfAnyInt();
        firstOfLikeOnes();
        firstOfNone();
    }

    /** Plates 0, 1, 2 of ship 0 lie dry, at the line and wet; ship 1 has none. */
    private static HullKeepers inMonth(int month) {
        HullKeepers x = new HullKeepers();
        x.ship(1000, 500, 1, 10000);
        x.ship(1000, 500, 1, 10000);
        for (int zone = DRY; zone <= WET; zone++) {
            x.plate(0, zone, 5000, 1, 0);
        }
        for (int m = 0; m < month; m += 60) {
            x.months(Math.min(60, month - m));
        }
        return x;
    }

    private static void inAMonthNowOrEarlier() {
        Check.promise(15);
        HullKeepers x = inMonth(0);
        Check.due("now is month 0", x.reading(0, 0, 0, 5, 0), 0);
        Check.due("a month that is to come", x.reading(0, 1, 0, 5, 1), BAD);
        x.months(1);
        Check.due("it is now", x.reading(0, 1, 0, 5, 1), 1);
        Check.due("an earlier one", x.reading(0, 0, 0, 5, 1), 2);
        HullKeepers y = inMonth(599);
        Check.due("now is the last month", y.reading(0, 599, 0, 5, 599), 0);
        Check.due("none is behind it", y.reading(0, 600, 0, 5, 600), BAD);
    }

    private static void knownNoEarlier() {
        Check.promise(15);
        HullKeepers x = inMonth(10);
        Check.due("known a month ahead of its own", x.reading(0, 7, 0, 5, 6), BAD);
        Check.due("known at once", x.reading(0, 7, 0, 5, 7), 0);
        Check.due("known in a month that is to come", x.reading(0, 7, 0, 5, 11), 1);
        Check.due("known in the last month", x.reading(0, 7, 0, 5, 599), 2);
        Check.due("known behind it", x.reading(0, 7, 0, 5, 600), BAD);
        Check.due("how many", x.count(2), 3);
    }

    private static void readingsOfTheSunken() {
        Check.promise(15);
        HullKeepers x = Houses.withSunken();
        Check.due("a plate of a ship that sank", x.reading(0, 0, 0, 310, 0), 0);
        Check.due("its guess", x.guess(0, 1, 0), 308);
    }

    private static void biasFromTheFirst() {
        Check.promise(16);
        HullKeepers x = inMonth(5);
        x.reading(0, 0, 1, 500, 0);
        Check.due("at first", x.bias(1, 100), 0);
        Check.due("known from month 0 on", x.guess(0, 0, 0), 400);
        Check.due("the most", x.bias(1, -100), 100);
        Check.due("told anew: known from month 0 on", x.guess(0, 0, 0), 600);
        Check.due("the least", x.bias(1, 0), -100);
        Check.due("of another gauge", x.bias(0, 50), 0);
        Check.due("of another gauge", x.guess(0, 0, 0), 500);
    }

    private static void putRightOnce() {
        Check.promise(17);
        int[] values = {-100, 100, 0};
        int[] known = {0, 599, 3};
        for (int i = 0; i < 3; i++) {
            HullKeepers x = inMonth(5);
            x.reading(0, 0, i, 500, 0);
            Check.due("put right", x.right(i, values[i], known[i]), 1);
            Check.due("once", x.right(i, values[i], known[i]), NO);
            Check.due("once, another", x.right(i, 7, 7), NO);
            Check.due("no bias any more", x.bias(i, 0), -2000);
            Check.due("as known in that month", x.guess(0, 0, known[i]), 500 - values[i]);
            Check.due("as known in the last month", x.guess(0, 0, 599), 500 - values[i]);
            Check.due("another gauge can be", x.right(3, 0, 0), 1);
        }
    }

    private static void knownByThen() {
        Check.promise(18);
        HullKeepers x = inMonth(5);
        x.reading(0, 2, 1, 500, 4);
        x.bias(1, 10);
        x.right(1, 30, 6);
        int[] due = {NONE, NONE, NONE, NONE, 490, 490, 470, 470};
        for (int k = 0; k < due.length; k++) {
            Check.due("as known at " + k, x.guess(0, 2, k), due[k]);
        }
        HullKeepers y = inMonth(5);
        y.reading(0, 2, 1, 500, 9);
        y.bias(1, 10);
        y.right(1, 30, 6);
        Check.due("a reading known behind the bias put right", y.guess(0, 2, 8), NONE);
        Check.due("a reading known behind the bias put right", y.guess(0, 2, 9), 470);
    }

    private static void latestOfMonthsThenOfNumbers() {
        Check.promise(18);
        HullKeepers x = inMonth(9);
        x.wear(DRY, 0);
        x.reading(0, 5, 0, 500, 5);
        x.reading(0, 5, 0, 400, 5);
        Check.due("of a month the later one", x.guess(0, 5, 5), 400);
        x.reading(0, 5, 0, 450, 6);
        Check.due("not known yet", x.guess(0, 5, 5), 400);
        Check.due("the latest of three", x.guess(0, 5, 6), 450);
        x.reading(0, 4, 0, 700, 5);
        Check.due("of an earlier month, told later", x.guess(0, 5, 6), 450);
        Check.due("in the earlier month", x.guess(0, 4, 6), 700);
        Check.due("ahead of all months", x.guess(0, 3, 6), NONE);
        x.reading(1, 9, 0, 100, 9);
        Check.due("of another plate", x.guess(0, 9, 9), 450);
    }

    private static void lessTheWearForEachMonthBetween() {
        Check.promise(18);
        int[] wears = {1, 4, 2};
        HullKeepers x = inMonth(9);
        for (int p = 0; p < 3; p++) {
            x.reading(p, 7, 0, 500, 7);
            Check.due("no month between", x.guess(p, 7, 7), 500);
            Check.due("one month between", x.guess(p, 8, 7), 500 - wears[p]);
            Check.due("many months between", x.guess(p, 107, 7), 500 - 100 * wears[p]);
            x.wear(p, 0);
            Check.due("no wear now", x.guess(p, 107, 7), 500);
            x.wear(p, 50);
            Check.due("the most wear now", x.guess(p, 16, 7), 50);
        }
    }

    private static void guessIsZeroAtLeast() {
        Check.promise(18);
        HullKeepers x = inMonth(0);
        x.reading(2, 0, 0, 5, 0);
        int[] due = {5, 3, 1, 0, 0};
        for (int m = 0; m < due.length; m++) {
            Check.due("month " + m, x.guess(2, m, 0), due[m]);
        }
        x.reading(2, 0, 1, 100, 0);
        x.bias(1, 99);
        Check.due("one above its bias", x.guess(2, 0, 0), 1);
        x.bias(1, 100);
        Check.due("its bias", x.guess(2, 0, 0), 0);
        x.reading(2, 0, 1, 99, 0);
        Check.due("one below its bias", x.guess(2, 0, 0), 0);
        x.reading(2, 0, 0, 0, 0);
        Check.due("a number of 0 is a reading", x.guess(2, 0, 0), 0);
        x.reading(2, 0, 0, -1, 0);
        Check.due("a number below 0", x.guess(2, 0, 0), 0);
    }

    private static void guessAtTheLastMonths() {
        Check.promise(18);
        HullKeepers x = inMonth(599);
        x.reading(0, 599, 0, 50, 599);
        Check.due("in the last month", x.guess(0, 599, 599), 50);
        Check.due("not known ahead of it", x.guess(0, 599, 598), NONE);
        Check.due("none in the month ahead of it", x.guess(0, 598, 599), NONE);
        Check.due("a month that is none", x.guess(0, 600, 599), BAD);
        Check.due("known in a month that is none", x.guess(0, 599, 600), BAD);
        x.reading(0, 0, 0, 598, 0);
        Check.due("598 months of wear", x.guess(0, 598, 0), 0);
        Check.due("597 months of wear", x.guess(0, 597, 0), 1);
        Check.due("0 at least", x.guess(0, 599, 0), 0);
    }

    /** No range is told of a reading's number: whatever int, nothing wraps around. */
    private static void guessOfAnyInt() {
        Check.promise(18);
        HullKeepers x = inMonth(0);
        x.reading(0, 0, 0, MIN, 0);
        x.bias(0, 100);
        Check.due("the least int less 100", x.guess(0, 0, 0), 0);
        x.wear(DRY, 50);
        Check.due("and less all wear", x.guess(0, 599, 0), 0);
        x.reading(0, 0, 1, MAX, 0);
        Check.due("the largest int", x.guess(0, 0, 0), MAX);
        Check.due("less all wear", x.guess(0, 599, 0), MAX - 599 * 50);
        x.bias(1, 100);
        Check.due("less a bias", x.guess(0, 0, 0), MAX - 100);
        x.bias(1, -100);
        Check.due("no more than an int", x.guess(0, 1, 0), MAX);
        Check.due("exact behind it", x.guess(0, 3, 0), MAX - 50);
    }

    private static void dueFromItsReadingOn() {
        Check.promise(19);
        HullKeepers x = inMonth(20);
        Check.due("no reading", x.due(2, 599), NONE);
        x.reading(2, 7, 0, 299, 8);
        Check.due("not known yet", x.due(2, 7), NONE);
        Check.due("below the bound at once", x.due(2, 8), 7);
        x.reading(2, 7, 0, 300, 9);
        Check.due("at the bound", x.due(2, 9), 8);
        x.reading(2, 7, 0, 301, 10);
        Check.due("a wear of 2 from one above", x.due(2, 10), 8);
        x.reading(2, 7, 0, 302, 11);
        Check.due("at the bound in a month", x.due(2, 11), 9);
        x.reading(2, 20, 0, 100, 20);
        Check.due("the latest of all that are known", x.due(2, 20), 20);
        Check.due("as it was known", x.due(2, 11), 9);
    }

    private static void dueByMonth599() {
        Check.promise(19);
        HullKeepers x = inMonth(0);
        x.reading(0, 0, 0, 300 + 598, 0);
        Check.due("in the last month", x.due(0, 0), 599);
        x.reading(0, 0, 0, 300 + 599, 0);
        Check.due("a month behind it", x.due(0, 0), NONE);
        HullKeepers y = inMonth(599);
        y.reading(0, 599, 0, 299, 599);
        Check.due("in the last month, at once", y.due(0, 599), 599);
        y.reading(0, 599, 0, 300, 599);
        Check.due("a month behind it", y.due(0, 599), NONE);
        Check.due("not known ahead of it", y.due(0, 598), NONE);
    }

    private static void dueOfABoundOfZero() {
        Check.promise(19);
        HullKeepers x = inMonth(0);
        x.reading(1, 0, 0, 3, 0);
        x.bound(0);
        Check.due("nothing is below 0", x.due(1, 0), NONE);
        x.bound(1);
        Check.due("0 is below 1", x.due(1, 0), 1);
        x.reading(1, 0, 0, 0, 0);
        Check.due("0 is below 1", x.due(1, 0), 0);
        x.reading(1, 0, 0, -7, 0);
        Check.due("less than 0 is 0, and below 1", x.due(1, 0), 0);
        x.bound(0);
        Check.due("less than 0 is 0, and not below 0", x.due(1, 0), NONE);
        x.bound(1000);
        x.reading(1, 0, 0, 1000, 0);
        Check.due("the most bound", x.due(1, 0), 1);
        x.reading(1, 0, 0, 999, 0);
        Check.due("one below it", x.due(1, 0), 0);
    }

    private static void dueIsByTheWearNow() {
        Check.promise(19);
        HullKeepers x = inMonth(0);
        x.reading(1, 0, 0, 400, 0);
        x.wear(LINE, 0);
        Check.due("no wear: never", x.due(1, 0), NONE);
        x.reading(1, 0, 1, 350, 0);
        x.bias(1, 51);
        Check.due("no wear, but below by its bias", x.due(1, 0), 0);
        x.bias(1, 50);
        Check.due("at the bound by its bias", x.due(1, 0), NONE);
        x.wear(LINE, 50);
        Check.due("the most wear", x.due(1, 0), 1);
        x.bias(1, -1);
        Check.due("one above the first month's wear", x.due(1, 0), 2);
    }

    private static void dueOfAnyInt() {
        Check.promise(19);
        HullKeepers x = inMonth(0);
        x.wear(DRY, 50);
        x.bias(0, 100);
        x.bias(1, -100);
        x.reading(0, 0, 0, MIN, 0);
        Check.due("the least int less 100", x.due(0, 0), 0);
        x.reading(0, 0, 1, MAX, 0);
        Check.due("the largest int and 100", x.due(0, 0), NONE);
    }

    private static void firstOfLikeOnes() {
        Check.promise(20);
        HullKeepers x = inMonth(0);
        x.reading(2, 0, 0, 302, 0);
        Check.due("one", x.first(0, 0), 2);
        x.reading(1, 0, 0, 304, 1);
        Check.due("as known", x.first(0, 0), 2);
        Check.due("due in one month: the least number", x.first(0, 1), 1);
        x.reading(0, 0, 0, 301, 2);
        Check.due("due in one month: the least number", x.first(0, 2), 0);
        x.reading(2, 0, 0, 301, 3);
        Check.due("due a month ahead of them", x.first(0, 3), 2);
        x.move(2, 1);
        Check.due("of its own ship", x.first(1, 3), 2);
        Check.due("of the other ship", x.first(0, 3), 0);
        x.move(0, 1);
        Check.due("of its own ship", x.first(1, 3), 2);
        x.bound(0);
        Check.due("none is due", x.first(1, 3), NONE);
    }

    private static void firstOfNone() {
        Check.promise(20);
        HullKeepers x = inMonth(1);
        Check.due("a ship without plates", x.first(1, 599), NONE);
        Check.due("plates without readings", x.first(0, 599), NONE);
        x.reading(2, 1, 0, 300 + 2 * 598, 1);
        Check.due("due behind the last month", x.first(0, 599), NONE);
        x.reading(2, 1, 0, 300 + 2 * 598 - 1, 1);
        Check.due("due in the last month", x.first(0, 599), 2);
        Check.due("a ship that is not there", x.first(2, 599), BAD);
    }
}
