/** Promises 1 to 9 and 11 to 14: what is told of ships and plates. */
final class ShipsTest {
    private static final int MAX = Integer.MAX_VALUE, MIN = Integer.MIN_VALUE;

    private ShipsTest() {
    }

    static void run() {
        newObject();
        ships();
        plates();
        laying();
        settings();
        about();
        replacing();
        moving();
    }

    private static void newObject() {
        Check.promise(1);
        HullKeepers x = new HullKeepers();
        for (int what = 0; what <= 8; what++) {
            Check.due("count(" + what + ")", x.count(what), 0);
        }
        Check.due("wear(0)", x.wear(0, 0), 1);
        Check.due("wear(1)", x.wear(1, 0), 4);
        Check.due("wear(2)", x.wear(2, 0), 2);
        Check.due("bound", x.bound(1), 300);
        Check.due("wire", x.wire(1), 60000);
        Check.due("storm", x.storm(0, 1), 0);
        Check.due("wave", x.wave(0, 1), 0);
        Check.due("bias", x.bias(3, 1), 0);
        for (int t = 0; t < 4; t++) {
            Check.due("erase", x.erase(t), 0);
        }
        Check.due("plan", x.plan(-1), 0);
        Check.due("done", x.done(0), 0);
        Check.due("leaks", x.leaks(0), 0);
        Check.due("from(0)", x.from(0), HullKeepers.NO);
        Check.due("NONE", HullKeepers.NONE, -1);
        Check.due("BAD", HullKeepers.BAD, -2);
        Check.due("NO", HullKeepers.NO, -3);
        Check.due("FULL", HullKeepers.FULL, -4);
        // docks and income at first: one dock, 100 a year
        x.hull(9, 1, 100);
        x.hull(9, 1, 100);
        Check.due("two ships that need one docking each", x.plan(-1), 20);
        Check.due("one in the last year that floats", x.plan(8), 2);
        Check.due("the other ahead of it, for there is one dock", x.plan(7), 1);
        HullKeepers y = new HullKeepers();
        y.hull(1, 9, 100);
        Check.due("an income of 100", y.plan(-1), 10);
        y.clear();
        y.hull(1, 9, 101);
        Check.due("and no more", y.plan(-1), 1);
    }

    private static void ships() {
        Check.promise(2);
        HullKeepers x = new HullKeepers();
        int[][] bad = {{9, 1, 1, 0}, {1001, 1, 1, 0}, {10, 0, 1, 0}, {10, 501, 1, 0}, {10, 1, 0, 0},
            {10, 1, 200001, 0}, {10, 1, 1, -1}, {10, 1, 1, 10001}, {MAX, 1, 1, 0}, {MIN, 1, 1, 0}};
        for (int[] b : bad) {
            Check.due("ship bad", x.ship(b[0], b[1], b[2], b[3]), HullKeepers.BAD);
        }
        Check.due("none came", x.count(0), 0);
        Check.due("least", x.ship(10, 1, 1, 0), 0);
        Check.due("most", x.ship(1000, 500, 200000, 10000), 1);
        for (int i = 2; i < 6; i++) {
            Check.due("ship", x.ship(10, 1, 1, 0), i);
        }
        Check.due("full", x.ship(10, 1, 1, 0), HullKeepers.FULL);
        Check.due("bad ahead of full", x.ship(9, 1, 1, 0), HullKeepers.BAD);
        Check.due("count", x.count(0), 6);
        Check.due("charter of a new ship", x.about(5, 6), HullKeepers.NONE);
    }

    private static void plates() {
        Check.promise(3);
        HullKeepers x = new HullKeepers();
        Check.due("no ship", x.plate(0, 0, 1, 1, 0), HullKeepers.BAD);
        x.ship(10, 1, 1, 0);
        int[][] bad = {{-1, 0, 1, 1, 0}, {1, 0, 1, 1, 0}, {0, -1, 1, 1, 0}, {0, 3, 1, 1, 0}, {0, 0, 0, 1, 0},
            {0, 0, 5001, 1, 0}, {0, 0, 1, 0, 0}, {0, 0, 1, 1001, 0}, {0, 0, 1, 1, 1}, {0, 0, 1, 1, -6001}};
        for (int[] b : bad) {
            Check.due("plate bad", x.plate(b[0], b[1], b[2], b[3], b[4]), HullKeepers.BAD);
        }
        Check.due("least", x.plate(0, 0, 1, 1, -6000), 0);
        Check.due("most", x.plate(0, 2, 5000, 1000, 0), 1);
        int[] due = {0, 2, 5000, 1000, 0, 0};
        Check.promise(12);
        for (int what = 0; what <= 5; what++) {
            Check.due("plateAt(1, " + what + ")", x.plateAt(1, what), due[what]);
        }
        Check.due("plateAt made", x.plateAt(0, 4), -6000);
        Check.due("plateAt bad", x.plateAt(0, -1), -10000);
        Check.due("plateAt bad", x.plateAt(0, 6), -10000);
        Check.due("plateAt bad", x.plateAt(2, 0), -10000);
        Check.due("plateAt bad", x.plateAt(-1, 0), -10000);
        Check.promise(3);
        for (int i = 2; i < 96; i++) {
            Check.due("plate", x.plate(0, 1, 500, 10, -5), i);
        }
        Check.due("full", x.plate(0, 1, 500, 10, -5), HullKeepers.FULL);
        Check.due("bad ahead of full", x.plate(0, 1, 0, 10, -5), HullKeepers.BAD);
        Check.due("count", x.count(1), 96);
    }

    private static void laying() {
        Check.promise(4);
        HullKeepers x = new HullKeepers();
        Check.due("no ship", x.lay(0), HullKeepers.BAD);
        x.ship(10, 100, 1, 0);
        x.ship(10, 100, 1, 0);
        Check.due("no ship", x.lay(-1), HullKeepers.BAD);
        Check.due("no plate", x.lay(0), HullKeepers.NO);
        x.plate(0, 0, 400, 3, 0);
        x.plate(1, 0, 400, 9, 0);
        x.plate(0, 0, 400, 4, 0);
        Check.due("laid", x.lay(0), 2);
        Check.due("laid twice", x.lay(0), HullKeepers.NO);
        Check.due("of the ship", x.plateAt(0, 5), 1);
        Check.due("not of the ship", x.plateAt(1, 5), 0);
        x.plate(0, 0, 400, 100, 0);
        Check.due("a later plate is no first stuff", x.plateAt(3, 5), 0);
        Check.due("nor counts it", x.about(0, 4), 1000);
        x.replace(0, 400);
        Check.due("cut", x.about(0, 4), 571);
        x.ship(10, 100, 1, 0);
        x.plate(2, 0, 400, 1, 0);
        Check.due("the least mass", x.lay(2), 1);
        Check.due("the least mass, twice", x.lay(2), HullKeepers.NO);
        Check.due("of the least mass", x.about(2, 4), 1000);
    }

    private static void settings() {
        HullKeepers x = new HullKeepers();
        x.ship(10, 100, 1, 0);
        Check.promise(5);
        Check.due("wear", x.wear(0, 50), 1);
        Check.due("wear", x.wear(0, 0), 50);
        Check.due("wear bad", x.wear(0, 51), HullKeepers.BAD);
        Check.due("wear bad", x.wear(0, -1), HullKeepers.BAD);
        Check.due("wear bad", x.wear(3, 1), HullKeepers.BAD);
        Check.due("wear bad", x.wear(-1, 1), HullKeepers.BAD);
        Check.due("wear stays", x.wear(0, 7), 0);
        Check.promise(6);
        Check.due("bound", x.bound(1000), 300);
        Check.due("bound bad", x.bound(1001), HullKeepers.BAD);
        Check.due("bound bad", x.bound(-1), HullKeepers.BAD);
        Check.due("bound", x.bound(0), 1000);
        Check.promise(7);
        Check.due("wire bad", x.wire(60001), HullKeepers.BAD);
        Check.due("wire bad", x.wire(-1), HullKeepers.BAD);
        Check.due("wire", x.wire(0), 60000);
        Check.due("wire", x.wire(60000), 0);
        Check.promise(8);
        Check.due("crowd bad", x.crowd(0, 20001), HullKeepers.BAD);
        Check.due("crowd bad", x.crowd(0, -1), HullKeepers.BAD);
        Check.due("crowd bad", x.crowd(1, 0), HullKeepers.BAD);
        Check.due("crowd bad", x.crowd(-1, 0), HullKeepers.BAD);
        Check.due("crowd", x.crowd(0, 20000), 0);
        Check.due("crowd", x.crowd(0, 5), 20000);
        Check.due("crowd", x.crowd(0, 0), 5);
        Check.due("crowd", x.crowd(0, 1), 0);
        Check.promise(9);
        Check.due("storm", x.storm(599, 100000), 0);
        Check.due("storm", x.storm(599, 0), 100000);
        Check.due("storm", x.storm(599, 1), 0);
        Check.due("storm bad", x.storm(600, 1), HullKeepers.BAD);
        Check.due("storm bad", x.storm(-1, 1), HullKeepers.BAD);
        Check.due("storm bad", x.storm(0, 100001), HullKeepers.BAD);
        Check.due("storm bad", x.storm(0, -1), HullKeepers.BAD);
        x.months(2);
        Check.due("storm of a month that went", x.storm(0, 8), 0);
        Check.due("storm of a month that went", x.storm(0, 9), 8);
    }

    private static void about() {
        Check.promise(11);
        HullKeepers x = new HullKeepers();
        Check.due("no ship", x.about(0, 0), HullKeepers.BAD);
        x.ship(10, 100, 109, 0);
        Check.due("bad", x.about(0, 7), HullKeepers.BAD);
        Check.due("bad", x.about(0, -1), HullKeepers.BAD);
        Check.due("bad", x.about(-1, 0), HullKeepers.BAD);
        Check.due("lies, cut", x.about(0, 1), 10);
        x.crowd(0, 1);
        Check.due("lies with a crowd", x.about(0, 1), 11);
        Check.due("plates", x.about(0, 3), 0);
        Check.due("not laid", x.about(0, 4), HullKeepers.NONE);
        x.plate(0, 0, 1, 1, 0);
        x.plate(0, 1, 290, 1, 0);
        x.plate(0, 2, 280, 1, 0);
        x.plate(0, 2, 300, 1, 0);
        Check.due("leaks", x.about(0, 5), 10 + 3 * 20);
        x.bound(301);
        Check.due("leaks", x.about(0, 5), 11 + 3 * 21 + 3);
        Check.due("plates", x.about(0, 3), 4);
        Check.due("charter", x.about(0, 6), HullKeepers.NONE);
        x.charter(0, 3);
        Check.due("charter", x.about(0, 6), 3);
        Check.due("floats", x.about(0, 2), 0);
        x.crowd(0, 20000);
        Check.due("a crowd alone sinks none", x.about(0, 2), 0);
        x.months(1);
        Check.due("sank", x.about(0, 2), 1);
    }

    private static void replacing() {
        Check.promise(13);
        HullKeepers x = new HullKeepers();
        x.ship(10, 100, 1, 0);
        Check.due("no plate", x.replace(0, 1), HullKeepers.BAD);
        x.plate(0, 2, 100, 7, -100);
        x.lay(0);
        x.months(1);
        Check.due("bad", x.replace(0, 0), HullKeepers.BAD);
        Check.due("bad", x.replace(0, 5001), HullKeepers.BAD);
        Check.due("bad", x.replace(-1, 1), HullKeepers.BAD);
        Check.due("replaced by the least", x.replace(0, 1), 1);
        Check.due("replaced", x.replace(0, 5000), 1);
        int[] due = {0, 2, 5000, 7, 1, 0};
        for (int what = 0; what <= 5; what++) {
            Check.due("plateAt(0, " + what + ")", x.plateAt(0, what), due[what]);
        }
        Check.due("no first stuff", x.about(0, 4), 0);
        x.charter(0, 0);
        Check.due("an empty charter has a fault", x.replace(0, 400), HullKeepers.NO);
        Check.due("bad ahead of no", x.replace(0, 0), HullKeepers.BAD);
        TextsTest.write(x, 0, "m=7");
        Check.due("the charter as it stands", x.replace(0, 400), 1);
        TextsTest.write(x, 0, "+1");
        Check.due("the charter as it stands", x.replace(0, 500), HullKeepers.NO);
        x.erase(0);
        TextsTest.write(x, 0, "0-2");
        Check.due("all but 0 is a truth", x.replace(0, 600), 1);
        x.erase(0);
        TextsTest.write(x, 0, "m-7");
        Check.due("0 is none", x.replace(0, 700), HullKeepers.NO);
        x.charter(0, HullKeepers.NONE);
        Check.due("no charter", x.replace(0, 800), 1);
        x.crowd(0, 20000);
        x.months(1);
        Check.due("sank", x.replace(0, 900), HullKeepers.NO);
        Check.due("nothing changed", x.plateAt(0, 2), 798);
    }

    private static void moving() {
        Check.promise(14);
        HullKeepers x = new HullKeepers();
        x.ship(10, 100, 1, 0);
        x.ship(10, 100, 1, 0);
        x.ship(10, 1, 200, 0);
        x.plate(0, 2, 400, 7, -100);
        x.plate(0, 2, 400, 3, -100);
        x.plate(2, 2, 400, 3, -100);
        Check.due("bad", x.move(3, 1), HullKeepers.BAD);
        Check.due("bad", x.move(-1, 1), HullKeepers.BAD);
        Check.due("bad", x.move(0, 3), HullKeepers.BAD);
        Check.due("bad", x.move(0, -1), HullKeepers.BAD);
        Check.due("its own", x.move(0, 0), HullKeepers.BAD);
        x.lay(0);
        Check.due("moved", x.move(0, 1), 1);
        Check.due("no first stuff there", x.plateAt(0, 5), 0);
        Check.due("the ship's", x.about(0, 4), 300);
        Check.due("back", x.move(0, 0), 1);
        Check.due("no first stuff here", x.about(0, 4), 300);
        Check.due("away", x.move(0, 1), 1);
        Check.due("laid there", x.lay(1), 1);
        Check.due("first stuff of the other", x.about(1, 4), 1000);
        Check.due("sinks", x.months(1), 1);
        Check.due("to one that sank", x.move(0, 2), HullKeepers.NO);
        Check.due("from one that sank", x.move(2, 0), HullKeepers.NO);
        Check.due("its own that sank", x.move(2, 2), HullKeepers.BAD);
        Check.due("stays", x.plateAt(2, 0), 2);
    }
}
