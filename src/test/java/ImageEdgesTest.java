/** Promises 40 to 43: each sentence on images, counts and the digest that names a boundary has a method of its own here. */
final class ImageEdgesTest {
    private static final int NONE = HullKeepers.NONE, BAD = HullKeepers.BAD, NO = HullKeepers.NO;
    private static final int LAST_CALL = 512;
    private static long h;

    private ImageEdgesTest() {
    }

    static void run() {
        imageOfNothing();
        imageOfAll();
        imagesAreNotInImages();
        goesOnFromAnImage();
        whatWasOnceComesBack();
        countsAtTheEdges();
        digestOfNothing();
        digestOfAllThereMayBe();
        digestOfGauges();
        digestWrapsAround();
        theLastCall();
    }

    private static void imageOfNothing() {
        Check.promise(40);
        HullKeepers x = new HullKeepers();
        long empty = x.digest();
        Check.due("image", x.image(0), 1);
        Check.due("the other", x.image(1), 1);
        Check.due("one that is none", x.image(2), BAD);
        Check.due("one that is none", x.image(-1), BAD);
        x.ship(10, 10, 10, 10);
        x.months(60);
        Check.promise(41);
        Check.due("from", x.from(0), 1);
        Check.due("nothing is there", x.digest(), empty);
        Check.due("nothing is there", x.about(0, 0), BAD);
        Check.due("from it again", x.from(0), 1);
        Check.due("numbers begin anew", x.ship(20, 20, 20, 20), 0);
        Check.due("nothing of the old ship", x.about(0, 1), 1);
        Check.due("one that is none", x.from(2), BAD);
        Check.due("one that is none", x.from(-1), BAD);
    }

    private static void imageOfAll() {
        Check.promise(40);
        HullKeepers x = Houses.full();
        long before = x.digest();
        x.image(1);
        x.erase(2);
        x.clear();
        x.drain();
        x.months(60);
        Check.holds("much has changed", x.digest() != before);
        Check.promise(41);
        Check.due("from", x.from(1), 1);
        Check.due("as it was", x.digest(), before);
        Check.due("full again", x.ship(10, 10, 10, 10), HullKeepers.FULL);
        Check.due("full again", x.plate(0, 0, 1, 1, 0), HullKeepers.FULL);
        Check.due("full again", x.reading(0, 0, 0, 1, 0), HullKeepers.FULL);
        Check.due("full again", x.hull(1, 1, 1), HullKeepers.FULL);
        Check.due("full again", x.test(1, true), HullKeepers.FULL);
        Check.due("full again", x.hand(1, 1), HullKeepers.FULL);
        Check.due("full again", x.work(1, 1, 1), HullKeepers.FULL);
        Check.due("full again", x.write(2, 1), HullKeepers.FULL);
    }

    private static void imagesAreNotInImages() {
        Check.promise(40);
        HullKeepers x = new HullKeepers();
        x.image(0);
        x.ship(10, 10, 10, 10);
        x.image(1);
        x.from(0);
        Check.due("the other was kept behind it", x.from(1), 1);
        Check.due("and is what it was", x.count(0), 1);
        x.ship(10, 10, 10, 10);
        x.image(0);
        x.from(1);
        Check.due("one ship", x.count(0), 1);
        x.from(0);
        Check.due("two ships", x.count(0), 2);
    }

    private static void goesOnFromAnImage() {
        Check.promise(41);
        HullKeepers x = new HullKeepers();
        x.ship(1000, 500, 1, 0);
        x.plate(0, 2, 310, 1, 0);
        x.image(0);
        x.months(9);
        int worn = x.plateAt(0, 2);
        int water = x.about(0, 0);
        x.from(0);
        Check.due("now", x.count(7), 0);
        x.months(9);
        Check.due("the same months again", x.plateAt(0, 2), worn);
        Check.due("the same months again", x.about(0, 0), water);
        x.from(0);
        Check.due("the image stays", x.plateAt(0, 2), 310);
        Check.due("what was told behind an image does not change it", x.replace(0, 7), 1);
        x.from(0);
        Check.due("the image stays", x.plateAt(0, 2), 310);
    }

    /** A ship that sank floats again, one that was laid is not, and what was put right can be put right. */
    private static void whatWasOnceComesBack() {
        Check.promise(41);
        HullKeepers x = new HullKeepers();
        x.ship(10, 100, 10, 0);
        x.plate(0, 0, 5, 5, 0);
        x.image(1);
        x.lay(0);
        x.right(3, 5, 5);
        x.crowd(0, 20000);
        Check.due("sinks", x.months(1), 1);
        Check.due("not the one that was not kept", x.from(0), NO);
        x.from(1);
        Check.due("it floats", x.about(0, 2), 0);
        Check.due("none sank", x.count(8), 0);
        Check.due("it floats on", x.months(60), 0);
        Check.due("it is not laid", x.about(0, 4), NONE);
        Check.due("it can be laid", x.lay(0), 1);
        Check.due("no bias was put right", x.bias(3, 1), 0);
        Check.due("one can be", x.right(3, 5, 5), 1);
    }

    private static void countsAtTheEdges() {
        Check.promise(42);
        int[] most = {6, 96, 150, 4, 20, 8, 8, 0, 0};
        HullKeepers x = new HullKeepers();
        HullKeepers y = Houses.full();
        for (int what = 0; what < most.length; what++) {
            Check.due("nothing", x.count(what), 0);
            Check.due("all that there may be", y.count(what), most[what]);
        }
        Check.due("below", x.count(-1), BAD);
        Check.due("above", x.count(9), BAD);
        for (int i = 0; i < 9; i++) {
            x.months(60);
        }
        x.months(59);
        Check.due("the last month", x.count(7), 599);
        HullKeepers z = new HullKeepers();
        for (int i = 0; i < 6; i++) {
            z.ship(10, 1, 200000, 0);
        }
        Check.due("ahead of the month", z.count(8), 0);
        z.months(1);
        Check.due("all sank", z.count(8), 6);
        z.months(1);
        Check.due("all sank once", z.count(8), 6);
    }

    private static void mix(long... values) {
        for (long v : values) {
            h = 31 * h + v;
        }
    }

    private static void digestOfNothing() {
        Check.promise(43);
        h = 307;
        mix(0, 0, 0, 0, 0, 0, 0, 0, 0);
        mix(0, 0, -1, 0, 0, -1, 0, 0, -1, 0, 0, -1);
        mix(0, 0, 0, 0);
        Check.due("digest", new HullKeepers().digest(), h);
        Check.due("digest, twice", new HullKeepers().digest(), h);
    }

    private static void digestOfAllThereMayBe() {
        Check.promise(43);
        HullKeepers x = Houses.full();
        h = 307;
        mix(6, 96, 150, 4, 20, 8, 8, 0, 0);
        for (int s = 0; s < 6; s++) {
            mix(1000, 500, 1, 10000, 0);
            mix(0, 0, 0, 16, -1, 0, -1);
        }
        for (int p = 0; p < 96; p++) {
            mix(p % 6, p % 3, 1000, 1 + p, -p, 0);
        }
        for (int r = 0; r < 150; r++) {
            mix(r % 96, 0, r % 4, 900, r);
        }
        mix(0, 0, -1, 0, 0, -1, 0, 0, -1, 0, 0, -1);
        mix(0, 0, 60);
        for (int i = 0; i < 60; i++) {
            mix('t');
        }
        mix(0);
        Check.due("digest", x.digest(), h);
    }

    /** Put right: 0 and known: NONE, till it is, though it may be put right by 0 in month 0. */
    private static void digestOfGauges() {
        Check.promise(43);
        HullKeepers x = new HullKeepers();
        x.bias(0, -100);
        x.right(1, 0, 0);
        x.bias(2, 100);
        x.right(2, -100, 599);
        h = 307;
        mix(0, 0, 0, 0, 0, 0, 0, 0, 0);
        mix(-100, 0, -1, 0, 0, 0, 100, -100, 599, 0, 0, -1);
        mix(0, 0, 0, 0);
        Check.due("digest", x.digest(), h);
    }

    private static void digestWrapsAround() {
        Check.promise(43);
        HullKeepers x = new HullKeepers();
        x.ship(1000, 500, 1, 0);
        x.plate(0, 0, 5000, 1000, -6000);
        x.reading(0, 0, 0, Integer.MIN_VALUE, 0);
        x.reading(0, 0, 0, Integer.MAX_VALUE, 0);
        x.write(3, 0);
        x.write(3, 127);
        h = 307;
        mix(1, 1, 2, 0, 0, 0, 0, 0, 0);
        mix(1000, 500, 1, 0, 0, 0, 0, 0, 1, -1, 0, -1);
        mix(0, 0, 5000, 1000, -6000, 0);
        mix(0, 0, 0, Integer.MIN_VALUE, 0, 0, 0, 0, Integer.MAX_VALUE, 0);
        mix(0, 0, -1, 0, 0, -1, 0, 0, -1, 0, 0, -1);
        mix(0, 0, 0, 2, 0, 127);
        Check.due("digest", x.digest(), h);
    }

    /** An object is used for 512 calls: the last answers as the first. */
    private static void theLastCall() {
        Check.promise(1);
        HullKeepers x = new HullKeepers();
        x.ship(10, 500, 10, 0);
        for (int call = 2; call < LAST_CALL; call++) {
            Check.due("call " + call, x.crowd(0, call), call == 2 ? 0 : call - 1);
        }
        Check.due("the last call", x.about(0, 1), (10 + LAST_CALL - 1) / 10);
    }
}
