import java.util.Random;

/** Any calls in any order: none throws, the same calls answer alike, and what is refused changes nothing. */
final class AnyCallsTest {
    private static final int CALLS = 43, LIMIT = 512;
    // each step asks the digest twice beside its call
    private static final int STEPS = LIMIT / 3 - 1;
    private static final int[] ODD = {Integer.MIN_VALUE, Integer.MAX_VALUE, -1, -2, 0, 1, 2, 3, 59, 60, 61, 100, 599,
        600, 5000};

    private AnyCallsTest() {
    }

    static void run() {
        Check.promise(0);
        for (int seed = 0; seed < 600; seed++) {
            anyCalls(seed, seed % 2 == 0 ? 10 : 70);
        }
    }

    private static void anyCalls(int seed, int odds) {
        Random random = new Random(seed);
        HullKeepers x = new HullKeepers();
        HullKeepers twin = new HullKeepers();
        for (int i = 0; i < STEPS; i++) {
            int which = random.nextInt(CALLS);
            int[] a = new int[5];
            for (int j = 0; j < 5; j++) {
                a[j] = argument(random, odds);
            }
            String what = "call " + which;
            try {
                long before = x.digest();
                long answer = call(x, which, a);
                Check.due(what + " on a twin", call(twin, which, a), answer);
                if (isRefused(which, answer)) {
                    Check.due(what + " refused", x.digest(), before);
                }
            } catch (RuntimeException e) {
                Check.holds(what + " of " + java.util.Arrays.toString(a) + " threw " + e, false);
                return;
            }
        }
        Check.due("digest of a twin", twin.digest(), x.digest());
    }

    /** Of a bias -2 and -3 are what it was. */
    private static boolean isRefused(int which, long answer) {
        if (which == 14) {
            return answer == -1000 || answer == -2000;
        }
        return answer == HullKeepers.BAD || answer == HullKeepers.NO || answer == HullKeepers.FULL;
    }

    private static int argument(Random random, int odds) {
        int kind = random.nextInt(100);
        if (kind < odds) {
            return ODD[random.nextInt(ODD.length)];
        }
        return kind < 80 ? random.nextInt(8) : kind < 92 ? random.nextInt(130) : random.nextInt(1000);
    }

    private static long call(HullKeepers x, int which, int[] a) {
        return which < 21 ? early(x, which, a) : late(x, which, a);
    }

    private static long early(HullKeepers x, int which, int[] a) {
        switch (which) {
            case 0: return x.ship(a[0] + 10, a[1], a[2], a[3]);
            case 1: return x.plate(a[0], a[1], a[2], a[3], -a[4]);
            case 2: return x.lay(a[0]);
            case 3: return x.wear(a[0], a[1]);
            case 4: return x.bound(a[0]);
            case 5: return x.wire(a[0]);
            case 6: return x.crowd(a[0], a[1]);
            case 7: return x.storm(a[0], a[1]);
            case 8: return x.months(a[0]);
            case 9: return x.about(a[0], a[1]);
            case 10: return x.plateAt(a[0], a[1]);
            case 11: return x.replace(a[0], a[1]);
            case 12: return x.move(a[0], a[1]);
            case 13: return x.reading(a[0], a[1], a[2], a[3], a[4]);
            case 14: return x.bias(a[0], a[1]);
            case 15: return x.right(a[0], a[1], a[2]);
            case 16: return x.guess(a[0], a[1], a[2]);
            case 17: return x.digest();
            case 18: return x.due(a[0], a[1]);
            case 19: return x.first(a[0], a[1]);
            default: return x.write(a[0], "tyzsfm0123456789!-+*/<>=&|() (((".charAt((a[1] & 0x7fffffff) % 32));
        }
    }

    private static long late(HullKeepers x, int which, int[] a) {
        switch (which) {
            case 21: return x.write(a[0], a[1]);
            case 22: return x.erase(a[0]);
            case 23: return x.fault(a[0]);
            case 24: return x.tells(a[0], a[1]);
            case 25: return x.charter(a[0], a[1]);
            case 26: return x.unlike(a[0], a[1], a[2], a[3]);
            case 27: return x.hull(a[0], a[1], a[2]);
            case 28: return x.docks(a[0], a[1]);
            case 29: return x.plan(a[0]);
            case 30: return x.clear();
            case 31: return x.test(a[0], a[1] % 2 == 0);
            case 32: return x.drain();
            case 33: return x.leaks(a[0]);
            case 34: return x.wave(a[0], a[1]);
            case 35: return x.tow(a[0], a[1], a[2]);
            case 36: return x.hand(a[0], a[1]);
            case 37: return x.work(a[0], a[1], a[2]);
            case 38: return x.done(a[0]);
            case 39: return x.worst(a[0], a[1], a[2]);
            case 40: return x.image(a[0]);
            case 41: return x.from(a[0]);
            default: return x.count(a[0]);
        }
    }
}
