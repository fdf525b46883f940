import java.util.List;
import java.util.function.Supplier;
import java.util.function.ToLongFunction;

/** Calls that are refused by NO or FULL: their answers, that BAD comes ahead of both, and that nothing has changed. */
final class RefusalsTest {
    private static final int BAD = HullKeepers.BAD, NO = HullKeepers.NO, FULL = HullKeepers.FULL;
    private static final long BAD_TELLING = -2000000000000000000L, NO_TELLING = -3000000000000000000L;

    private RefusalsTest() {
    }

    static void run() {
        no();
        noOfTheSunken();
        noImage();
        badAheadOfNo();
        full();
        badAheadOfFull();
        nothingThere();
    }

    private static void refused(int promise, Supplier<HullKeepers> house, ToLongFunction<HullKeepers> call, long due) {
        Check.promise(promise);
        List<Long> before = Houses.all(house.get());
        HullKeepers x = house.get();
        Check.due("a refused call", call.applyAsLong(x), due);
        Check.holds("a refused call changed nothing", Houses.all(x).equals(before));
    }

    private static HullKeepers told(int charter, String signs) {
        HullKeepers x = Houses.told();
        TextsTest.write(x, 0, signs);
        x.charter(0, charter);
        return x;
    }

    private static void no() {
        refused(4, Houses::told, x -> x.lay(0), NO);
        refused(4, Houses::told, x -> x.lay(2), NO);
        refused(13, () -> told(0, "t>400"), x -> x.replace(0, 500), NO);
        refused(13, () -> told(0, "t-274"), x -> x.replace(0, 500), NO);
        refused(13, () -> told(0, "1+"), x -> x.replace(0, 500), NO);
        refused(13, () -> told(2, ""), x -> x.replace(0, 500), NO);
        refused(16, Houses::told, x -> x.bias(2, 6), -2000);
        refused(16, Houses::told, x -> x.bias(2, 9), -2000);
        refused(17, Houses::told, x -> x.right(2, 9, 10), NO);
        refused(17, Houses::told, x -> x.right(2, -9, 0), NO);
        refused(24, Houses::told, x -> x.tells(0, 0), NO_TELLING);
        refused(24, () -> told(0, "t)"), x -> x.tells(0, 0), NO_TELLING);
        refused(24, () -> told(0, "1234567"), x -> x.tells(0, 0), NO_TELLING);
        refused(24, () -> told(0, "(((((((((1)))))))))"), x -> x.tells(0, 0), NO_TELLING);
    }

    private static HullKeepers bothSunken() {
        HullKeepers x = Houses.withSunken();
        x.crowd(1, 20000);
        x.months(1);
        return x;
    }

    private static void noOfTheSunken() {
        refused(13, Houses::withSunken, x -> x.replace(0, 500), NO);
        refused(14, Houses::withSunken, x -> x.move(0, 1), NO);
        refused(14, Houses::withSunken, x -> x.move(1, 0), NO);
        refused(14, RefusalsTest::bothSunken, x -> x.move(0, 1), NO);
        refused(14, RefusalsTest::bothSunken, x -> x.move(1, 0), NO);
    }

    private static void noImage() {
        refused(41, HullKeepers::new, x -> x.from(0), NO);
        refused(41, HullKeepers::new, x -> x.from(1), NO);
        refused(41, Houses::full, x -> x.from(1), NO);
        Check.promise(41);
        HullKeepers x = Houses.full();
        x.image(1);
        Check.due("the other image was not kept", x.from(0), NO);
        Check.due("this one was", x.from(1), 1);
    }

    private static void badAheadOfNo() {
        refused(13, Houses::withSunken, x -> x.replace(0, 0), BAD);
        refused(13, Houses::withSunken, x -> x.replace(0, 5001), BAD);
        refused(13, () -> told(0, "0"), x -> x.replace(0, 5001), BAD);
        refused(14, Houses::withSunken, x -> x.move(0, 0), BAD);
        refused(14, Houses::withSunken, x -> x.move(0, 3), BAD);
        refused(14, Houses::withSunken, x -> x.move(3, 0), BAD);
        refused(16, Houses::told, x -> x.bias(2, 101), -1000);
        refused(16, Houses::told, x -> x.bias(2, -101), -1000);
        refused(17, Houses::told, x -> x.right(2, 101, 0), BAD);
        refused(17, Houses::told, x -> x.right(2, -101, 0), BAD);
        refused(17, Houses::told, x -> x.right(2, 0, 600), BAD);
        refused(17, Houses::told, x -> x.right(2, 0, -1), BAD);
        refused(24, Houses::told, x -> x.tells(0, 3), BAD_TELLING);
        refused(24, Houses::told, x -> x.tells(0, -1), BAD_TELLING);
        refused(41, HullKeepers::new, x -> x.from(2), BAD);
        refused(41, HullKeepers::new, x -> x.from(-1), BAD);
    }

    private static void full() {
        refused(2, Houses::full, x -> x.ship(10, 1, 1, 0), FULL);
        refused(3, Houses::full, x -> x.plate(0, 0, 1, 1, 0), FULL);
        refused(15, Houses::full, x -> x.reading(0, 0, 0, 1, 0), FULL);
        refused(21, Houses::full, x -> x.write(2, 0), FULL);
        refused(27, Houses::full, x -> x.hull(0, 1, 0), FULL);
        refused(31, Houses::full, x -> x.test(0, false), FULL);
        refused(36, Houses::full, x -> x.hand(0, 1), FULL);
        refused(37, Houses::full, x -> x.work(0, 1, 1), FULL);
    }

    private static void badAheadOfFull() {
        refused(2, Houses::full, x -> x.ship(10, 1, 1, -1), BAD);
        refused(3, Houses::full, x -> x.plate(6, 0, 1, 1, 0), BAD);
        refused(3, Houses::full, x -> x.plate(0, 0, 1, 1, 1), BAD);
        refused(15, Houses::full, x -> x.reading(96, 0, 0, 1, 0), BAD);
        refused(15, Houses::full, x -> x.reading(0, 1, 0, 1, 1), BAD);
        refused(21, Houses::full, x -> x.write(2, 128), BAD);
        refused(21, Houses::full, x -> x.write(2, -1), BAD);
        refused(27, Houses::full, x -> x.hull(0, 1, 1001), BAD);
        refused(31, Houses::full, x -> x.test(4096, false), BAD);
        refused(31, Houses::full, x -> x.test(-1, true), BAD);
        refused(36, Houses::full, x -> x.hand(0, 0), BAD);
        refused(37, Houses::full, x -> x.work(0, 1, 0), BAD);
    }

    /** On a new object no ship and no plate has a number yet. */
    private static void nothingThere() {
        refused(3, HullKeepers::new, x -> x.plate(0, 0, 1, 1, 0), BAD);
        refused(4, HullKeepers::new, x -> x.lay(0), BAD);
        refused(8, HullKeepers::new, x -> x.crowd(0, 0), BAD);
        refused(11, HullKeepers::new, x -> x.about(0, 0), BAD);
        refused(12, HullKeepers::new, x -> x.plateAt(0, 0), -10000);
        refused(13, HullKeepers::new, x -> x.replace(0, 1), BAD);
        refused(14, HullKeepers::new, x -> x.move(0, 0), BAD);
        refused(15, HullKeepers::new, x -> x.reading(0, 0, 0, 0, 0), BAD);
        refused(18, HullKeepers::new, x -> x.guess(0, 0, 0), BAD);
        refused(19, HullKeepers::new, x -> x.due(0, 0), BAD);
        refused(20, HullKeepers::new, x -> x.first(0, 0), BAD);
        refused(24, HullKeepers::new, x -> x.tells(0, 0), BAD_TELLING);
        refused(25, HullKeepers::new, x -> x.charter(0, 0), -10);
        refused(25, HullKeepers::new, x -> x.charter(0, -1), -10);
        refused(26, HullKeepers::new, x -> x.unlike(0, 0, 1, -1), BAD);
    }
}
