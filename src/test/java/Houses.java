import java.util.ArrayList;
import java.util.List;

/** Objects with much told, and all that can be asked of one: so that a test can see whether anything changed. */
final class Houses {
    private static final int[] MONTHS_ASKED = {0, 1, 2, 3, 30, 31, 90, 598, 599};
    private static final int[] DAYS_ASKED = {0, 5, 6, 44, 89};

    private Houses() {
    }

    /** Something of each kind, three months on; ship 1 has a charter that lets plate 1 go, ship 2 has no plates. */
    static HullKeepers told() {
        HullKeepers x = new HullKeepers();
        x.ship(20, 100, 300, 20);
        x.ship(30, 120, 500, 0);
        x.ship(40, 140, 700, 9);
        x.image(0);
        tellMuch(x);
        x.image(1);
        x.wave(6, 61);
        return x;
    }

    /** Something of each kind but ships: 0 and 1 are there. */
    static void tellMuch(HullKeepers x) {
        x.plate(0, 2, 280, 10, -5);
        x.plate(1, 1, 290, 20, -6);
        x.plate(0, 0, 400, 30, -7);
        x.lay(0);
        x.crowd(1, 77);
        x.storm(1, 40);
        x.storm(30, 50);
        x.wear(0, 3);
        x.bound(350);
        x.wire(900);
        x.months(3);
        x.reading(1, 2, 3, 290, 4);
        x.reading(0, 3, 2, 380, 3);
        x.bias(1, -5);
        x.bias(2, 6);
        x.right(2, 9, 10);
        TextsTest.write(x, 1, "t<300");
        TextsTest.write(x, 3, "!f");
        x.charter(1, 3);
        x.hull(5, 2, 100);
        x.hull(3, 3, 50);
        x.docks(2, 150);
        x.test(7, true);
        x.test(2, false);
        x.wave(5, 60);
        x.hand(3, 20);
        x.work(1, 15, 30);
    }

    /** As much of each kind as there may be. */
    static HullKeepers full() {
        HullKeepers x = new HullKeepers();
        for (int i = 0; i < 6; i++) {
            x.ship(1000, 500, 1, 10000);
        }
        for (int i = 0; i < 96; i++) {
            x.plate(i % 6, i % 3, 1000, 1 + i, -i);
        }
        for (int i = 0; i < 150; i++) {
            x.reading(i % 96, 0, i % 4, 900, i);
        }
        for (int i = 0; i < 60; i++) {
            x.write(2, 't');
        }
        for (int i = 0; i < 4; i++) {
            x.hull(i, 1, 10);
        }
        for (int i = 0; i < 20; i++) {
            x.test(4095 >> i % 4, true);
        }
        for (int i = 0; i < 8; i++) {
            x.hand(1 + i, 10);
            x.work(i % 5, 7, 1 + i);
        }
        return x;
    }

    /** Ship 0 sank in the first month, ships 1 and 2 float; plates 0, 1, 2 are of ships 0, 1, 2. */
    static HullKeepers withSunken() {
        HullKeepers x = new HullKeepers();
        x.ship(10, 1, 500, 0);
        x.ship(10, 400, 10, 5);
        x.ship(10, 400, 10, 5);
        for (int i = 0; i < 3; i++) {
            x.plate(i, 2, 290, 5 + i, -1);
            x.lay(i);
        }
        x.months(1);
        return x;
    }

    /** All that can be asked of an object; it is used up by it. */
    static List<Long> all(HullKeepers x) {
        List<Long> told = new ArrayList<>();
        told.add(x.digest());
        settings(x, told);
        for (int what = -1; what <= 11; what++) {
            told.add((long) x.plan(what));
        }
        for (int what = 0; what <= 1; what++) {
            told.add((long) x.leaks(what));
            told.add((long) x.done(what));
        }
        for (int p = 0; p < 3; p++) {
            told.add((long) x.guess(p, 20, 20));
            told.add((long) x.due(p, 3));
            told.add((long) x.due(p, 20));
            told.add(x.tells(3, p));
        }
        docks(x, told);
        for (int i = 0; i <= 1; i++) {
            int goesOn = x.from(i);
            told.add((long) goesOn);
            if (goesOn == 1) {
                told.add(x.digest());
                settings(x, told);
            }
        }
        return told;
    }

    /** What can be seen only by telling another and telling the first again. */
    private static void settings(HullKeepers x, List<Long> told) {
        for (int zone = 0; zone < 3; zone++) {
            int was = x.wear(zone, 0);
            x.wear(zone, was);
            told.add((long) was);
        }
        int bound = x.bound(0);
        x.bound(bound);
        told.add((long) bound);
        int wire = x.wire(0);
        x.wire(wire);
        told.add((long) wire);
        for (int month : MONTHS_ASKED) {
            int was = x.storm(month, 0);
            x.storm(month, was);
            told.add((long) was);
        }
        for (int day : DAYS_ASKED) {
            int was = x.wave(day, 0);
            x.wave(day, was);
            told.add((long) was);
        }
    }

    /** How many docks there are, and the most coin that the first year's income pays. */
    private static void docks(HullKeepers x, List<Long> told) {
        x.clear();
        for (int i = 0; i < 4; i++) {
            x.hull(1, 9, 0);
        }
        told.add((long) x.plan(11));
        int paid = 0;
        for (int more = 512; more > 0; more /= 2) {
            x.clear();
            if (paid + more <= 1000) {
                x.hull(1, 9, paid + more);
                paid += x.plan(11) == 1 ? more : 0;
            }
        }
        told.add((long) paid);
    }
}
