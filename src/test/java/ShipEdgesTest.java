/** Promises 1 to 14 and 39: each sentence that names a boundary has a method of its own here. */
final class ShipEdgesTest {
    private static final int NONE = HullKeepers.NONE, BAD = HullKeepers.BAD, NO = HullKeepers.NO;
    private static final int DRY = 0, LINE = 1, WET = 2;

    private ShipEdgesTest() {
    }

    static void run() {
        nothingIsThere();
        shipsComeAsTheyCome();
        theLeastAndTheMostOfShipAndPlate();
        madeByMonthZeroWheneverTold();
        laidOnce();
        noneLeftToLay();
        noWearAndTheMostWear();
        zonesWearApart();
        settings();
        aCrowdSinksAtTheNextMonthOnly();
        aboutBounds();
        firstStuffIsCut();
        firstStuffOfEverySize();
        replacedAtTheEdges();
        charterAtTheEdges();
        movedThereAndBack();
    }

    private static void nothingIsThere() {
        Check.promise(1);
        HullKeepers x = new HullKeepers();
        for (int what = 0; what <= 8; what++) {
            Check.due("count(" + what + ")", x.count(what), 0);
        }
        for (int t = 0; t < 4; t++) {
            Check.due("an empty text ends too early", x.fault(t), 1);
        }
        Check.due("clear", x.clear(), 0);
        Check.due("drain", x.drain(), 0);
        Check.due("no wave", x.tow(30, 0, 60), 60);
        Check.due("done", x.done(1), 0);
        Check.due("leaks", x.leaks(1), 0);
        Check.due("months of nothing", x.months(60), 0);
        Check.due("worst of nothing: the first month", x.worst(100000, 60, 0), 60);
        Check.due("worst of nothing: no ship", x.worst(100000, 60, 1), 0);
        for (int month = 0; month < 600; month += 599) {
            Check.due("no storm", x.storm(month, 0), 0);
        }
        for (int gauge = 0; gauge < 4; gauge++) {
            Check.due("no bias", x.bias(gauge, 0), 0);
            Check.due("none put right", x.right(gauge, 0, 0), 1);
        }
    }

    private static void shipsComeAsTheyCome() {
        Check.promise(2);
        HullKeepers x = new HullKeepers();
        for (int i = 0; i < 6; i++) {
            Check.due("a refused ship takes no number", x.ship(9, 1, 1, 0), BAD);
            Check.due("ship", x.ship(10 + i, 1, 1, 0), i);
            Check.due("how many", x.count(0), i + 1);
        }
        Check.due("a seventh", x.ship(10, 1, 1, 0), HullKeepers.FULL);
        Check.due("how many", x.count(0), 6);
        for (int i = 0; i < 6; i++) {
            Check.due("water", x.about(i, 0), 0);
            Check.due("sank", x.about(i, 2), 0);
            Check.due("plates", x.about(i, 3), 0);
            Check.due("first stuff", x.about(i, 4), NONE);
            Check.due("leaks", x.about(i, 5), 0);
            Check.due("charter", x.about(i, 6), NONE);
            Check.due("crowd", x.crowd(i, 0), 0);
        }
    }

    private static void theLeastAndTheMostOfShipAndPlate() {
        Check.promise(2);
        HullKeepers x = new HullKeepers();
        x.ship(10, 1, 1, 0);
        x.ship(1000, 500, 200000, 10000);
        Check.due("the least lies", x.about(0, 1), 0);
        Check.due("the most lies", x.about(1, 1), 200);
        x.crowd(1, 20000);
        Check.due("the most with the most crowd lies", x.about(1, 1), 220);
        x.storm(0, 100000);
        Check.due("10000 of it are pumped", x.months(1), 1);
        Check.due("water", x.about(1, 0), 90000);
        Check.due("lies", x.about(1, 1), 310);
        Check.due("the least sank", x.about(0, 2), 1);
        Check.due("the most floats", x.about(1, 2), 0);
        Check.promise(3);
        HullKeepers y = new HullKeepers();
        y.ship(10, 1, 1, 0);
        Check.due("least", y.plate(0, DRY, 1, 1, -6000), 0);
        Check.due("most", y.plate(0, WET, 5000, 1000, 0), 1);
        Check.due("thickness", y.plateAt(0, 2), 1);
        Check.due("mass", y.plateAt(0, 3), 1);
        Check.due("made", y.plateAt(0, 4), -6000);
        Check.due("thickness", y.plateAt(1, 2), 5000);
        Check.due("mass", y.plateAt(1, 3), 1000);
        Check.due("made", y.plateAt(1, 4), 0);
    }

    private static void madeByMonthZeroWheneverTold() {
        Check.promise(3);
        HullKeepers x = new HullKeepers();
        x.ship(10, 100, 1, 0);
        x.months(60);
        Check.due("made in month 1 that went", x.plate(0, DRY, 1, 1, 1), BAD);
        Check.due("made now", x.plate(0, DRY, 1, 1, 60), BAD);
        Check.due("made in month 0", x.plate(0, DRY, 1, 1, 0), 0);
        Check.due("made 6000 months ahead of month 0", x.plate(0, DRY, 1, 1, -6000), 1);
        Check.due("nothing was worn ahead of its coming", x.plateAt(0, 2), 1);
    }

    private static void laidOnce() {
        Check.promise(4);
        HullKeepers x = new HullKeepers();
        x.ship(10, 100, 1, 0);
        x.plate(0, DRY, 400, 1, 0);
        Check.due("of one plate", x.lay(0), 1);
        Check.due("again", x.lay(0), NO);
        x.plate(0, DRY, 400, 1, 0);
        Check.due("again with another plate", x.lay(0), NO);
        Check.due("the other is none", x.plateAt(1, 5), 0);
        x.replace(0, 400);
        Check.due("again with no first stuff left", x.lay(0), NO);
        Check.due("none left", x.about(0, 4), 0);
        HullKeepers y = new HullKeepers();
        y.ship(10, 100, 1, 0);
        for (int i = 0; i < 96; i++) {
            y.plate(0, DRY, 400, 1000, 0);
        }
        Check.due("of 96 plates", y.lay(0), 96);
        Check.due("of the most mass that there can be", y.about(0, 4), 1000);
        y.replace(95, 400);
        Check.due("95 of 96, cut", y.about(0, 4), 989);
    }

    private static void noneLeftToLay() {
        Check.promise(4);
        HullKeepers x = new HullKeepers();
        x.ship(10, 100, 1, 0);
        x.ship(10, 100, 1, 0);
        Check.due("has none", x.lay(0), NO);
        x.plate(0, DRY, 400, 1, 0);
        x.move(0, 1);
        Check.due("has none any more", x.lay(0), NO);
        Check.due("not laid", x.about(0, 4), NONE);
        x.replace(0, 300);
        Check.due("laid with a plate of another ship, replaced", x.lay(1), 1);
        Check.due("all its plates are first stuff", x.plateAt(0, 5), 1);
        Check.due("all its plates are first stuff", x.about(1, 4), 1000);
        x.move(0, 0);
        Check.due("laid, and has none: no first stuff", x.about(1, 4), 0);
        Check.due("laid, and has none", x.lay(1), NO);
        Check.due("the other can still be laid", x.lay(0), 1);
    }

    private static HullKeepers withZones(int thickness) {
        HullKeepers x = new HullKeepers();
        x.ship(1000, 500, 1, 0);
        for (int zone = DRY; zone <= WET; zone++) {
            x.plate(0, zone, thickness, 1, 0);
        }
        return x;
    }

    private static void noWearAndTheMostWear() {
        Check.promise(5);
        for (int zone = DRY; zone <= WET; zone++) {
            HullKeepers x = withZones(101);
            x.wear(zone, 0);
            x.months(60);
            Check.due("no wear", x.plateAt(zone, 2), 101);
            Check.due("what it was", x.wear(zone, 50), 0);
            x.months(1);
            Check.due("the most wear", x.plateAt(zone, 2), 51);
            x.months(1);
            Check.due("the most wear", x.plateAt(zone, 2), 1);
            x.months(1);
            Check.due("0 at least", x.plateAt(zone, 2), 0);
            Check.due("what it was", x.wear(zone, 0), 50);
        }
    }

    private static void zonesWearApart() {
        Check.promise(5);
        HullKeepers x = withZones(1000);
        x.months(1);
        Check.due("dry at first", x.plateAt(0, 2), 999);
        Check.due("line at first", x.plateAt(1, 2), 996);
        Check.due("wet at first", x.plateAt(2, 2), 998);
        x.wear(DRY, 10);
        x.wear(LINE, 20);
        x.wear(WET, 30);
        x.months(2);
        Check.due("dry", x.plateAt(0, 2), 979);
        Check.due("line", x.plateAt(1, 2), 956);
        Check.due("wet", x.plateAt(2, 2), 938);
    }

    private static void settings() {
        Check.promise(6);
        HullKeepers x = withZones(1);
        Check.due("at first", x.bound(0), 300);
        Check.due("a bound of 0: no leak of the thinnest", x.about(0, 5), 0);
        Check.due("the least", x.bound(1000), 0);
        Check.due("a bound of 1000", x.about(0, 5), 999 + 3 * 999);
        Check.due("the most", x.bound(1), 1000);
        Check.due("a bound of its thickness", x.about(0, 5), 0);
        Check.due("between", x.bound(2), 1);
        Check.due("one more than its thickness", x.about(0, 5), 1 + 3);
        Check.promise(7);
        Check.due("at first", x.wire(60000), 60000);
        Check.due("the most", x.wire(0), 60000);
        Check.due("the least", x.wire(0), 0);
        Check.promise(9);
        Check.due("at first", x.storm(0, 100000), 0);
        Check.due("the most", x.storm(0, 1), 100000);
        Check.due("the least", x.storm(0, 0), 1);
        Check.due("none", x.storm(0, 0), 0);
        Check.due("the last month", x.storm(599, 3), 0);
        Check.due("the last month", x.storm(599, 0), 3);
    }

    private static void aCrowdSinksAtTheNextMonthOnly() {
        Check.promise(8);
        HullKeepers x = new HullKeepers();
        x.ship(10, 500, 1, 0);
        x.crowd(0, 20000);
        Check.due("how deep with the most crowd", x.about(0, 1), 2000);
        Check.due("it floats till a month goes", x.about(0, 2), 0);
        x.crowd(0, 0);
        Check.due("none sinks", x.months(1), 0);
        x.crowd(0, 20000);
        Check.due("it sinks", x.months(1), 1);
        Check.due("a crowd on one that sank", x.crowd(0, 7), 20000);
        Check.due("how deep", x.about(0, 1), 0);
        Check.due("a crowd on one that sank", x.crowd(0, 0), 7);
    }

    private static void aboutBounds() {
        Check.promise(11);
        HullKeepers x = new HullKeepers();
        x.ship(10, 100, 1000, 0);
        Check.due("lies", x.about(0, 1), 100);
        x.crowd(0, 9);
        Check.due("lies, cut", x.about(0, 1), 100);
        x.crowd(0, 10);
        Check.due("lies", x.about(0, 1), 101);
        x.plate(0, LINE, 300, 1, 0);
        x.plate(0, WET, 300, 1, 0);
        Check.due("no leak at the bound, ahead of any wear", x.about(0, 5), 0);
        x.bound(301);
        Check.due("a leak one below the bound", x.about(0, 5), 4);
        for (int text = 3; text >= 0; text--) {
            x.charter(0, text);
            Check.due("charter", x.about(0, 6), text);
        }
        x.charter(0, NONE);
        Check.due("no charter", x.about(0, 6), NONE);
        Check.promise(12);
        Check.due("the last zone", x.plateAt(1, 1), 2);
        Check.due("a plate that is not there", x.plateAt(2, 0), -10000);
    }

    private static HullKeepers laidOf(int... masses) {
        HullKeepers x = new HullKeepers();
        x.ship(10, 100, 1, 0);
        x.ship(10, 100, 1, 0);
        for (int mass : masses) {
            x.plate(0, DRY, 400, mass, 0);
        }
        x.lay(0);
        return x;
    }

    private static void firstStuffIsCut() {
        Check.promise(11);
        HullKeepers x = laidOf(1, 1, 1);
        x.replace(0, 1);
        Check.due("two thirds, cut", x.about(0, 4), 666);
        x.move(1, 1);
        Check.due("a third, cut", x.about(0, 4), 333);
        x.replace(2, 1);
        Check.due("nothing", x.about(0, 4), 0);
        HullKeepers y = laidOf(1, 1000);
        y.replace(0, 1);
        Check.due("nearly all, cut", y.about(0, 4), 999);
        HullKeepers z = laidOf(1, 1000);
        z.replace(1, 1);
        Check.due("nearly nothing, cut", z.about(0, 4), 0);
    }

    /** The mass of all that were it then, whatever comes, goes or is replaced after. */
    private static void firstStuffOfEverySize() {
        Check.promise(11);
        for (int many = 1; many <= 96; many += 19) {
            int[] masses = new int[many];
            int all = 0;
            for (int i = 0; i < many; i++) {
                masses[i] = 1 + i * 7 % 1000;
                all += masses[i];
            }
            HullKeepers x = laidOf(masses);
            int still = all;
            for (int i = 0; i < many; i++) {
                Check.due("first stuff", x.about(0, 4), still * 1000L / all);
                x.replace(i, 500);
                still -= masses[i];
            }
            Check.due("none", x.about(0, 4), 0);
        }
    }

    private static void replacedAtTheEdges() {
        Check.promise(13);
        HullKeepers x = laidOf(5);
        x.replace(0, 1);
        x.months(1);
        Check.due("worn to nothing", x.plateAt(0, 2), 0);
        Check.due("a plate of no thickness", x.replace(0, 5000), 1);
        Check.due("the most", x.plateAt(0, 2), 5000);
        Check.due("made now", x.plateAt(0, 4), 1);
        Check.due("its mass stays", x.plateAt(0, 3), 5);
        Check.due("twice in a month", x.replace(0, 1), 1);
        Check.due("the least", x.plateAt(0, 2), 1);
        for (int i = 0; i < 9; i++) {
            x.months(60);
        }
        x.months(58);
        Check.due("in the last month", x.replace(0, 7), 1);
        Check.due("made in the last month", x.plateAt(0, 4), 599);
    }

    private static void charterAtTheEdges() {
        Check.promise(13);
        HullKeepers x = laidOf(5);
        x.charter(0, 2);
        Check.due("an empty text is a fault", x.replace(0, 1), NO);
        TextsTest.write(x, 2, "f");
        Check.due("first stuff: a truth", x.replace(0, 1), 1);
        Check.due("no first stuff any more", x.replace(0, 1), NO);
        x.erase(2);
        TextsTest.write(x, 2, "-1");
        Check.due("below 0 is a truth", x.replace(0, 2), 1);
        TextsTest.write(x, 2, "+1");
        Check.due("0 is none", x.replace(0, 3), NO);
        x.charter(0, 1);
        Check.due("another text, with a fault", x.replace(0, 3), NO);
        x.charter(0, NONE);
        Check.due("all may be", x.replace(0, 3), 1);
        x.plate(1, DRY, 9, 9, 0);
        x.charter(0, 2);
        Check.due("another ship's charter", x.replace(1, 3), 1);
        x.move(1, 0);
        Check.due("the charter of the ship that it is of now", x.replace(1, 4), NO);
    }

    private static void movedThereAndBack() {
        Check.promise(14);
        HullKeepers x = laidOf(1, 1);
        Check.due("its own", x.move(0, 0), BAD);
        Check.due("to one that is not laid", x.move(0, 1), 1);
        Check.due("no first stuff there", x.about(1, 4), NONE);
        Check.due("half", x.about(0, 4), 500);
        Check.due("its own now", x.move(0, 1), BAD);
        Check.due("back", x.move(0, 0), 1);
        Check.due("nor if it comes back", x.plateAt(0, 5), 0);
        Check.due("half", x.about(0, 4), 500);
        Check.due("away again", x.move(0, 1), 1);
        Check.due("laid there", x.lay(1), 1);
        Check.due("first stuff there", x.plateAt(0, 5), 1);
        Check.due("back again", x.move(0, 0), 1);
        Check.due("no first stuff here", x.about(0, 4), 500);
        Check.due("the rest goes", x.move(1, 1), 1);
        Check.due("none of the other's first stuff", x.about(1, 4), 0);
        Check.due("thickness stays", x.plateAt(1, 2), 400);
        Check.due("made stays", x.plateAt(1, 4), 0);
    }
}
