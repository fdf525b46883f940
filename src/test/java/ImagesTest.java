/** Promises 40 to 43: images, counts and the digest. */
final class ImagesTest {
    private ImagesTest() {
    }

    static void run() {
        images();
        counts();
        digest();
        digestOfEach();
    }

    /** Something of each kind. */
    private static HullKeepers much() {
        HullKeepers x = new HullKeepers();
        x.ship(20, 100, 300, 20);
        x.ship(30, 120, 500, 0);
        Houses.tellMuch(x);
        return x;
    }

    /** All that can be asked without a change, as one number. */
    private static long answers(HullKeepers x) {
        long h = x.digest();
        for (int what = -1; what <= 11; what++) {
            h = 31 * h + x.plan(what);
        }
        for (int p = 0; p < x.count(1); p++) {
            for (int k = 0; k < 20; k += 9) {
                h = 31 * h + x.guess(p, 19, k);
                h = 31 * h + x.due(p, k);
            }
            for (int t = 0; t < 4; t++) {
                h = 31 * h + x.tells(t, p);
            }
        }
        for (int from = 0; from < 90; from += 15) {
            h = 31 * h + x.tow(4, 50, from);
        }
        for (int what = 0; what <= 1; what++) {
            h = 31 * h + x.leaks(what);
            h = 31 * h + x.done(what);
        }
        return h;
    }

    private static void images() {
        Check.promise(40);
        HullKeepers x = much();
        Check.due("bad", x.image(2), HullKeepers.BAD);
        Check.due("bad", x.image(-1), HullKeepers.BAD);
        long before = answers(x);
        Check.due("image", x.image(0), 1);
        Check.due("an image changes nothing", answers(x), before);
        Check.promise(41);
        Check.due("bad", x.from(2), HullKeepers.BAD);
        Check.due("bad", x.from(-1), HullKeepers.BAD);
        Check.due("none kept", x.from(1), HullKeepers.NO);
        changeAll(x);
        long after = answers(x);
        Check.holds("all has changed", after != before);
        Check.due("image", x.image(1), 1);
        Check.due("from", x.from(0), 1);
        Check.due("all is back", answers(x), before);
        settingsOf(much(), x);
        Check.due("from", x.from(0), 1);
        Check.due("from the other", x.from(1), 1);
        Check.due("all of the other", answers(x), after);
        Check.due("from", x.from(0), 1);
        Check.due("an image stays as it was kept", answers(x), before);
        Check.promise(40);
        x.ship(10, 10, 10, 10);
        Check.due("kept anew", x.image(0), 1);
        x.ship(10, 10, 10, 10);
        x.from(0);
        Check.due("kept anew", x.count(0), 3);
        HullKeepers other = new HullKeepers();
        Check.due("another object has no image", other.from(0), HullKeepers.NO);
    }

    private static void changeAll(HullKeepers x) {
        x.ship(50, 50, 50, 50);
        x.plate(2, 0, 50, 50, 0);
        x.lay(1);
        x.crowd(0, 20000);
        x.storm(30, 51);
        x.wear(0, 4);
        x.wear(1, 5);
        x.wear(2, 6);
        x.bound(222);
        x.wire(1);
        x.replace(1, 333);
        x.move(1, 0);
        x.months(3);
        x.reading(2, 3, 3, 11, 5);
        x.bias(1, 50);
        x.right(1, 60, 5);
        x.erase(1);
        TextsTest.write(x, 1, "m=30");
        TextsTest.write(x, 3, "|1");
        x.charter(1, 1);
        x.clear();
        x.hull(4, 4, 4);
        x.docks(1, 30);
        x.drain();
        x.test(8, true);
        x.wave(5, 61);
        x.wave(30, 99);
        x.hand(31, 60);
        x.work(4, 30, 50);
    }

    private static void settingsOf(HullKeepers due, HullKeepers x) {
        Check.due("wear", x.wear(0, 1), due.wear(0, 1));
        Check.due("wear", x.wear(1, 1), due.wear(1, 1));
        Check.due("wear", x.wear(2, 1), due.wear(2, 1));
        Check.due("bound", x.bound(1), due.bound(1));
        Check.due("wire", x.wire(1), due.wire(1));
        Check.due("storm", x.storm(30, 1), due.storm(30, 1));
        Check.due("wave", x.wave(5, 1), due.wave(5, 1));
        Check.due("wave", x.wave(30, 1), due.wave(30, 1));
        Check.due("crowd", x.crowd(0, 1), due.crowd(0, 1));
        Check.due("charter", x.charter(1, 0), due.charter(1, 0));
        Check.due("bias", x.bias(1, 0), due.bias(1, 0));
    }

    private static void counts() {
        Check.promise(42);
        HullKeepers x = much();
        int[] due = {2, 3, 2, 2, 2, 1, 1, 3, 0};
        for (int what = 0; what < due.length; what++) {
            Check.due("count(" + what + ")", x.count(what), due[what]);
        }
        Check.due("bad", x.count(9), HullKeepers.BAD);
        Check.due("bad", x.count(-1), HullKeepers.BAD);
        x.crowd(0, 20000);
        x.crowd(1, 20000);
        x.months(1);
        Check.due("sank", x.count(8), 2);
    }

    private static long h;

    private static void mix(long v) {
        h = 31 * h + v;
    }

    private static void digest() {
        Check.promise(43);
        h = 307;
        for (int i = 0; i < 9; i++) {
            mix(0);
        }
        for (int g = 0; g < 4; g++) {
            mix(0);
            mix(0);
            mix(-1);
        }
        for (int t = 0; t < 4; t++) {
            mix(0);
        }
        Check.due("digest of a new object", new HullKeepers().digest(), h);
        HullKeepers x = much();
        h = 307;
        for (int what = 0; what <= 8; what++) {
            mix(x.count(what));
        }
        int[][] ships = {{20, 100, 300, 20, 0}, {30, 120, 500, 0, 77}};
        for (int s = 0; s < 2; s++) {
            for (int v : ships[s]) {
                mix(v);
            }
            for (int what = 0; what <= 6; what++) {
                mix(x.about(s, what));
            }
        }
        for (int p = 0; p < 3; p++) {
            for (int what = 0; what <= 5; what++) {
                mix(x.plateAt(p, what));
            }
        }
        int[] rest = {1, 2, 3, 290, 4, 0, 3, 2, 380, 3, 0, 0, -1, -5, 0, -1, 6, 9, 10, 0, 0, -1,
            0, 5, 't', '<', '3', '0', '0', 0, 2, '!', 'f'};
        for (int v : rest) {
            mix(v);
        }
        Check.due("digest of all", x.digest(), h);
    }

    private static void digestOfEach() {
        Check.promise(43);
        HullKeepers x = much();
        long last = x.digest();
        x.wave(80, 3);
        x.docks(1, 1);
        x.storm(90, 5);
        Check.due("not of waves, docks, storms", x.digest(), last);
        x.crowd(0, 1);
        Check.holds("of crowds", x.digest() != last);
        last = x.digest();
        x.bias(0, 1);
        Check.holds("of a bias", x.digest() != last);
        last = x.digest();
        x.right(0, 0, 0);
        Check.holds("of a bias put right", x.digest() != last);
        last = x.digest();
        x.write(2, 0);
        Check.holds("of a text", x.digest() != last);
    }
}
