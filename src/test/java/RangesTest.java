import java.util.Arrays;
import java.util.List;

/**
 * Each number that a call takes, end by end: the least and the most that are told are taken; one less, one more and
 * far away (where numbers wrap around or shifts begin anew) it is BAD, and nothing has changed by it.
 */
final class RangesTest {
    private static final int MAX = Integer.MAX_VALUE, MIN = Integer.MIN_VALUE, BAD = HullKeepers.BAD;
    private static final int[] FAR = {MIN, MAX, MIN + 1, -65536, 65536, 256, 64, 32};
    private static final long BAD_TELLING = -2000000000000000000L;
    private static final List<Long> BEFORE = Houses.all(Houses.told());

    private RangesTest() {
    }

    interface Call {
        long of(HullKeepers x, int[] a);
    }

    static void run() {
        ships();
        months();
        readings();
        texts();
        fleet();
        finding();
        images();
    }

    private static int[] n(int... numbers) {
        return numbers;
    }

    /** The ranges stand behind one another: least, most, least, most, .. */
    private static void ranges(int promise, long bad, Call call, int[] taken, int... ends) {
        Check.promise(promise);
        for (int i = 0; i < taken.length; i++) {
            int least = ends[2 * i];
            int most = ends[2 * i + 1];
            takes(promise, bad, call, with(taken, i, least));
            takes(promise, bad, call, with(taken, i, most));
            if (least > MIN) {
                refuses(promise, bad, call, with(taken, i, least - 1));
            }
            if (most < MAX) {
                refuses(promise, bad, call, with(taken, i, most + 1));
            }
            for (int far : FAR) {
                if (far < least || far > most) {
                    refuses(promise, bad, call, with(taken, i, far));
                }
            }
        }
    }

    private static int[] with(int[] taken, int i, int v) {
        int[] a = taken.clone();
        a[i] = v;
        return a;
    }

    private static void takes(int promise, long bad, Call call, int[] a) {
        String what = "call of promise " + promise + " with " + Arrays.toString(a);
        Check.holds(what + " is not BAD", call.of(Houses.told(), a) != bad);
    }

    private static void refuses(int promise, long bad, Call call, int[] a) {
        String what = "call of promise " + promise + " with " + Arrays.toString(a);
        HullKeepers x = Houses.told();
        Check.due(what, call.of(x, a), bad);
        Check.holds(what + " changed nothing", Houses.all(x).equals(BEFORE));
    }

    private static void ships() {
        ranges(2, BAD, (x, a) -> x.ship(a[0], a[1], a[2], a[3]), n(20, 100, 300, 20),
                10, 1000, 1, 500, 1, 200000, 0, 10000);
        ranges(3, BAD, (x, a) -> x.plate(a[0], a[1], a[2], a[3], a[4]), n(1, 1, 500, 5, -9),
                0, 2, 0, 2, 1, 5000, 1, 1000, -6000, 0);
        ranges(4, BAD, (x, a) -> x.lay(a[0]), n(1), 0, 2);
        ranges(5, BAD, (x, a) -> x.wear(a[0], a[1]), n(1, 7), 0, 2, 0, 50);
        ranges(6, BAD, (x, a) -> x.bound(a[0]), n(7), 0, 1000);
        ranges(7, BAD, (x, a) -> x.wire(a[0]), n(7), 0, 60000);
        ranges(8, BAD, (x, a) -> x.crowd(a[0], a[1]), n(1, 7), 0, 2, 0, 20000);
        ranges(11, BAD, (x, a) -> x.about(a[0], a[1]), n(1, 0), 0, 2, 0, 6);
        ranges(12, -10000, (x, a) -> x.plateAt(a[0], a[1]), n(1, 0), 0, 2, 0, 5);
        ranges(13, BAD, (x, a) -> x.replace(a[0], a[1]), n(1, 7), 0, 2, 1, 5000);
        ranges(14, BAD, (x, a) -> x.move(a[0], 2), n(1), 0, 2);
        // its own ship is 0
        ranges(14, BAD, (x, a) -> x.move(0, a[0]), n(1), 1, 2);
    }

    private static void months() {
        ranges(9, BAD, (x, a) -> x.storm(a[0], a[1]), n(7, 7), 0, 599, 0, 100000);
        ranges(10, BAD, (x, a) -> x.months(a[0]), n(7), 1, 60);
        ranges(39, BAD, (x, a) -> x.worst(a[0], a[1], a[2]), n(7, 7, 0), 1, 100000, 1, 60, 0, 1);
    }

    private static void readings() {
        ranges(15, BAD, (x, a) -> x.reading(a[0], a[1], a[2], a[3], a[4]), n(1, 2, 1, 300, 9),
                0, 2, 0, 3, 0, 3, MIN, MAX, 2, 599);
        ranges(16, -1000, (x, a) -> x.bias(a[0], a[1]), n(1, 7), 0, 3, -100, 100);
        ranges(17, BAD, (x, a) -> x.right(a[0], a[1], a[2]), n(1, 7, 7), 0, 3, -100, 100, 0, 599);
        ranges(18, BAD, (x, a) -> x.guess(a[0], a[1], a[2]), n(1, 7, 7), 0, 2, 0, 599, 0, 599);
        ranges(19, BAD, (x, a) -> x.due(a[0], a[1]), n(1, 7), 0, 2, 0, 599);
        ranges(20, BAD, (x, a) -> x.first(a[0], a[1]), n(1, 7), 0, 2, 0, 599);
    }

    private static void texts() {
        ranges(21, BAD, (x, a) -> x.write(a[0], a[1]), n(1, 65), 0, 3, 0, 127);
        ranges(22, BAD, (x, a) -> x.erase(a[0]), n(1), 0, 3);
        ranges(23, BAD, (x, a) -> x.fault(a[0]), n(1), 0, 3);
        ranges(24, BAD_TELLING, (x, a) -> x.tells(a[0], a[1]), n(1, 1), 0, 3, 0, 2);
        ranges(25, -10, (x, a) -> x.charter(a[0], a[1]), n(1, 1), 0, 2, -1, 3);
        ranges(26, BAD, (x, a) -> x.unlike(a[0], a[1], a[2], a[3]), n(1, 1, 3, 0),
                0, 2, 0, 3, 0, 3, -1, MAX);
    }

    private static void fleet() {
        ranges(27, BAD, (x, a) -> x.hull(a[0], a[1], a[2]), n(5, 5, 5), 0, 10, 1, 10, 0, 1000);
        ranges(28, BAD, (x, a) -> x.docks(a[0], a[1]), n(1, 7), 0, 3, 0, 1000);
        ranges(29, BAD, (x, a) -> x.plan(a[0]), n(7), -1, 11);
    }

    private static void finding() {
        ranges(31, BAD, (x, a) -> x.test(a[0], true), n(7), 0, 4095);
        ranges(31, BAD, (x, a) -> x.test(a[0], false), n(7), 0, 4095);
        ranges(33, BAD, (x, a) -> x.leaks(a[0]), n(0), 0, 1);
        ranges(34, BAD, (x, a) -> x.wave(a[0], a[1]), n(7, 7), 0, 89, 0, 100);
        ranges(35, BAD, (x, a) -> x.tow(a[0], a[1], a[2]), n(7, 7, 7), 1, 30, 0, 100, 0, 89);
        ranges(36, BAD, (x, a) -> x.hand(a[0], a[1]), n(7, 7), 0, 31, 1, 60);
        ranges(37, BAD, (x, a) -> x.work(a[0], a[1], a[2]), n(1, 7, 7), 0, 4, 1, 100, 1, 100);
        ranges(38, BAD, (x, a) -> x.done(a[0]), n(0), 0, 1);
    }

    private static void images() {
        ranges(40, BAD, (x, a) -> x.image(a[0]), n(1), 0, 1);
        ranges(41, BAD, (x, a) -> x.from(a[0]), n(1), 0, 1);
        ranges(42, BAD, (x, a) -> x.count(a[0]), n(7), 0, 8);
    }
}
