/** Promises 27 to 30: each sentence on the fleet that names a boundary has a method of its own here. */
final class FleetEdgesTest {
    private static final int BAD = HullKeepers.BAD, FULL = HullKeepers.FULL;

    private FleetEdgesTest() {
    }

    static void run() {
        fourShips();
        theLeastAndTheMost();
        noDocksAndThree();
        incomeAheadOfEachYear();
        whatIsLeftStays();
        planOfNone();
        whileItFloats();
        aGainEachTime();
        yearsByNine();
        fewestDockings();
        leastSetYearByYear();
        letGoByYearNine();
        whatItIsAskedFor();
        plannedAnew();
        clearedAtTheEdges();
    }

    private static HullKeepers fleet(int docks, int income, int... hulls) {
        HullKeepers x = new HullKeepers();
        x.docks(docks, income);
        for (int i = 0; i < hulls.length; i += 3) {
            x.hull(hulls[i], hulls[i + 1], hulls[i + 2]);
        }
        return x;
    }

    /** Years together, dockings, who is let go; then the sets of the years. */
    private static void planIs(HullKeepers x, int years, int dockings, int letGo, int... sets) {
        Check.due("years", x.plan(-1), years);
        Check.due("dockings", x.plan(11), dockings);
        Check.due("let go", x.plan(10), letGo);
        for (int year = 0; year < 10; year++) {
            Check.due("year " + year, x.plan(year), year < sets.length ? sets[year] : 0);
        }
    }

    private static void fourShips() {
        Check.promise(27);
        HullKeepers x = new HullKeepers();
        for (int i = 0; i < 4; i++) {
            Check.due("a refused one takes no number", x.hull(11, 1, 0), BAD);
            Check.due("hull", x.hull(10, 1, 0), i);
            Check.due("how many", x.count(3), i + 1);
        }
        Check.due("a fifth", x.hull(10, 1, 0), FULL);
        Check.due("how many", x.count(3), 4);
        x.clear();
        Check.due("numbers begin anew", x.hull(10, 1, 0), 0);
    }

    private static void theLeastAndTheMost() {
        Check.promise(27);
        planIs(fleet(1, 1000, 0, 1, 0), 0, 0, 1);
        planIs(fleet(1, 1000, 10, 10, 1000), 10, 0, 0);
        planIs(fleet(1, 1000, 9, 1, 1000), 10, 1, 0, 0, 0, 0, 0, 0, 0, 0, 0, 1);
        planIs(fleet(1, 999, 1, 10, 1000), 1, 0, 1);
        planIs(fleet(1, 1000, 1, 10, 1000), 10, 1, 0, 1);
    }

    private static void noDocksAndThree() {
        Check.promise(28);
        int[] four = {1, 9, 0, 1, 9, 0, 1, 9, 0, 1, 9, 0};
        planIs(fleet(0, 1000, four), 4, 0, 15);
        planIs(fleet(1, 1000, four), 13, 1, 14, 1);
        planIs(fleet(2, 1000, four), 22, 2, 12, 3);
        planIs(fleet(3, 1000, four), 31, 3, 8, 7);
        HullKeepers x = fleet(3, 1000, four);
        Check.due("four docks", x.docks(4, 1000), BAD);
        Check.due("it stays", x.plan(11), 3);
        Check.due("too little income", x.docks(0, -1), BAD);
        Check.due("it stays", x.plan(11), 3);
    }

    /** The income of year 0 pays a docking in year 0. */
    private static void incomeAheadOfEachYear() {
        Check.promise(28);
        planIs(fleet(1, 100, 1, 9, 100), 10, 1, 0, 1);
        planIs(fleet(1, 99, 1, 9, 100), 1, 0, 1);
        planIs(fleet(1, 99, 2, 9, 198), 10, 1, 0, 0, 1);
        planIs(fleet(1, 99, 2, 9, 199), 2, 0, 1);
        planIs(fleet(1, 0, 1, 9, 0), 10, 1, 0, 1);
        planIs(fleet(1, 0, 1, 9, 1), 1, 0, 1);
        planIs(fleet(1, 100, 9, 1, 900), 10, 1, 0, 0, 0, 0, 0, 0, 0, 0, 0, 1);
        planIs(fleet(1, 100, 9, 1, 901), 9, 0, 1);
    }

    private static void whatIsLeftStays() {
        Check.promise(28);
        // 60 in year 0 leave 40, and 140 in year 1 take all
        planIs(fleet(1, 100, 1, 9, 60, 2, 9, 140), 20, 2, 0, 1, 2);
        planIs(fleet(1, 100, 1, 9, 60, 2, 9, 141), 12, 1, 2, 1);
        planIs(fleet(2, 100, 1, 9, 50, 1, 9, 50), 20, 2, 0, 3);
        planIs(fleet(2, 100, 1, 9, 50, 1, 9, 51), 11, 1, 2, 1);
    }

    private static void planOfNone() {
        Check.promise(29);
        planIs(new HullKeepers(), 0, 0, 0);
        planIs(fleet(3, 1000), 0, 0, 0);
        planIs(fleet(3, 1000, 0, 10, 0, 0, 10, 0, 0, 10, 0, 0, 10, 0), 0, 0, 15);
        planIs(fleet(3, 1000, 10, 1, 0, 10, 1, 0, 10, 1, 0, 10, 1, 0), 40, 0, 0);
    }

    /** It floats in the years below the one it floats till, and can be docked in these alone. */
    private static void whileItFloats() {
        Check.promise(29);
        planIs(fleet(1, 50, 1, 9, 100), 1, 0, 1);
        planIs(fleet(1, 50, 2, 8, 100), 10, 1, 0, 0, 1);
        planIs(fleet(1, 50, 2, 8, 101), 2, 0, 1);
        planIs(fleet(1, 1000, 0, 10, 0), 0, 0, 1);
        planIs(fleet(1, 1000, 1, 9, 0, 1, 9, 0), 11, 1, 2, 1);
    }

    private static void aGainEachTime() {
        Check.promise(29);
        // a gain of 1 from year 1 on: a docking in each year
        planIs(fleet(1, 100, 1, 1, 100), 10, 9, 0, 1, 1, 1, 1, 1, 1, 1, 1, 1);
        planIs(fleet(1, 100, 1, 1, 101), 1, 0, 1);
        planIs(fleet(1, 10, 5, 2, 20), 10, 3, 0, 0, 0, 0, 0, 1, 0, 1, 0, 1);
        planIs(fleet(1, 100, 3, 4, 100), 10, 2, 0, 0, 0, 1, 0, 0, 0, 1);
    }

    private static void yearsByNine() {
        Check.promise(29);
        // one docking makes 10 of 9; two can make no more
        planIs(fleet(3, 1000, 9, 10, 0), 10, 1, 0, 0, 0, 0, 0, 0, 0, 0, 0, 1);
        planIs(fleet(3, 1000, 5, 4, 0), 10, 2, 0, 0, 0, 0, 0, 1, 0, 0, 0, 1);
        planIs(fleet(3, 1000, 5, 5, 0), 10, 1, 0, 0, 0, 0, 0, 1);
        planIs(fleet(3, 1000, 5, 10, 0), 10, 1, 0, 0, 0, 0, 0, 1);
    }

    private static void fewestDockings() {
        Check.promise(29);
        // coin for one docking of nine years, or for many of one
        planIs(fleet(1, 10, 1, 9, 10, 1, 1, 0), 11, 1, 2, 1);
        // two years more by one docking of ship 1 or by two of ship 0: not both, and the sets of two would be less
        planIs(fleet(1, 10, 8, 1, 40, 8, 2, 80), 18, 1, 1, 0, 0, 0, 0, 0, 0, 0, 2);
        planIs(fleet(1, 10, 8, 1, 40, 8, 2, 81), 18, 2, 2, 0, 0, 0, 0, 0, 0, 0, 1, 1);
    }

    private static void leastSetYearByYear() {
        Check.promise(29);
        // each may be docked in years 0 .. 2: the least is as late as may be, and ship 0 ahead of ship 1
        planIs(fleet(2, 1000, 3, 7, 0, 3, 7, 0), 20, 2, 0, 0, 0, 3);
        planIs(fleet(1, 1000, 3, 7, 0, 3, 7, 0), 20, 2, 0, 0, 1, 2);
        planIs(fleet(1, 1000, 3, 7, 0, 3, 7, 0, 3, 7, 0), 30, 3, 0, 1, 2, 4);
        planIs(fleet(1, 1000, 3, 7, 0, 3, 7, 0, 3, 7, 0, 3, 7, 0), 33, 3, 8, 1, 2, 4);
        planIs(fleet(3, 1000, 1, 9, 0, 1, 9, 0, 1, 9, 0, 1, 9, 0), 31, 3, 8, 7);
    }

    private static void letGoByYearNine() {
        Check.promise(29);
        planIs(fleet(0, 0, 9, 1, 0, 10, 1, 0, 0, 1, 0, 8, 1, 0), 27, 0, 13);
        planIs(fleet(1, 100, 9, 1, 0, 10, 1, 0, 0, 1, 0, 7, 1, 0), 30, 4, 4, 0, 0, 0, 0, 0, 1, 8, 8, 8);
    }

    private static void whatItIsAskedFor() {
        Check.promise(29);
        HullKeepers x = fleet(1, 1000, 9, 1, 0, 1, 9, 0);
        Check.due("below NONE", x.plan(-2), BAD);
        Check.due("years", x.plan(-1), 20);
        Check.due("year 0", x.plan(0), 2);
        Check.due("year 8", x.plan(8), 1);
        Check.due("year 9", x.plan(9), 0);
        Check.due("let go", x.plan(10), 0);
        Check.due("dockings", x.plan(11), 2);
        Check.due("above", x.plan(12), BAD);
    }

    /** The plan is of what is told now. */
    private static void plannedAnew() {
        Check.promise(29);
        HullKeepers x = fleet(0, 100, 5, 5, 100);
        planIs(x, 5, 0, 1);
        x.docks(1, 100);
        planIs(x, 10, 1, 0, 0, 0, 0, 0, 1);
        x.image(0);
        x.hull(1, 9, 100);
        planIs(x, 20, 2, 0, 2, 0, 0, 0, 1);
        x.clear();
        planIs(x, 0, 0, 0);
        x.hull(0, 1, 1);
        planIs(x, 0, 0, 1);
        x.from(0);
        planIs(x, 10, 1, 0, 0, 0, 0, 0, 1);
        x.docks(1, 19);
        planIs(x, 5, 0, 1);
    }

    private static void clearedAtTheEdges() {
        Check.promise(30);
        HullKeepers x = new HullKeepers();
        Check.due("none", x.clear(), 0);
        x.hull(1, 9, 0);
        Check.due("one", x.clear(), 1);
        for (int i = 0; i < 5; i++) {
            x.hull(1, 9, 0);
        }
        Check.due("four", x.clear(), 4);
        Check.due("none any more", x.clear(), 0);
        Check.due("how many", x.count(3), 0);
        planIs(x, 0, 0, 0);
    }
}
