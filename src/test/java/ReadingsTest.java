import java.util.ArrayList;
import java.util.List;
import java.util.Random;

/** Promises 15 to 20: readings, gauges and what was known when. */
final class ReadingsTest {
    private static final int MAX = Integer.MAX_VALUE;

    private ReadingsTest() {
    }

    static void run() {
        readings();
        gauges();
        guesses();
        dues();
        firsts();
        againstModel();
    }

    private static HullKeepers withPlates(int many) {
        HullKeepers x = new HullKeepers();
        x.ship(1000, 500, 1, 10000);
        x.ship(1000, 500, 1, 10000);
        for (int i = 0; i < many; i++) {
            x.plate(0, i % 3, 1000, 1, 0);
        }
        return x;
    }

    private static void readings() {
        Check.promise(15);
        HullKeepers x = withPlates(1);
        x.months(5);
        int[][] bad = {{-1, 0, 0, 1, 0}, {1, 0, 0, 1, 0}, {0, -1, 0, 1, 0}, {0, 6, 0, 1, 6}, {0, 0, -1, 1, 0},
            {0, 0, 4, 1, 0}, {0, 3, 0, 1, 2}, {0, 3, 0, 1, 600}, {0, 3, 0, 1, -1}};
        for (int[] b : bad) {
            Check.due("reading bad", x.reading(b[0], b[1], b[2], b[3], b[4]), HullKeepers.BAD);
        }
        Check.due("now, known at once", x.reading(0, 5, 3, 7, 5), 0);
        Check.due("earlier, known late", x.reading(0, 0, 0, -7, 599), 1);
        Check.due("a number is any", x.reading(0, 1, 0, MAX, 1), 2);
        for (int i = 3; i < 150; i++) {
            Check.due("reading", x.reading(0, 1, 0, 5, 1), i);
        }
        Check.due("full", x.reading(0, 1, 0, 5, 1), HullKeepers.FULL);
        Check.due("bad ahead of full", x.reading(0, 1, 4, 5, 1), HullKeepers.BAD);
        Check.due("count", x.count(2), 150);
    }

    private static void gauges() {
        Check.promise(16);
        HullKeepers x = withPlates(1);
        Check.due("bias bad", x.bias(4, 0), -1000);
        Check.due("bias bad", x.bias(-1, 0), -1000);
        Check.due("bias bad", x.bias(0, 101), -1000);
        Check.due("bias bad", x.bias(0, -101), -1000);
        Check.due("bias", x.bias(0, 100), 0);
        Check.due("bias", x.bias(0, -100), 100);
        Check.promise(17);
        Check.due("right bad", x.right(4, 0, 0), HullKeepers.BAD);
        Check.due("right bad", x.right(-1, 0, 0), HullKeepers.BAD);
        Check.due("right bad", x.right(0, 101, 0), HullKeepers.BAD);
        Check.due("right bad", x.right(0, -101, 0), HullKeepers.BAD);
        Check.due("right bad", x.right(0, 0, 600), HullKeepers.BAD);
        Check.due("right bad", x.right(0, 0, -1), HullKeepers.BAD);
        Check.due("right", x.right(0, 0, 599), 1);
        Check.due("right once", x.right(0, 5, 0), HullKeepers.NO);
        Check.due("bad ahead of no", x.right(0, 101, 0), HullKeepers.BAD);
        Check.due("another gauge", x.right(1, 5, 0), 1);
        Check.promise(16);
        Check.due("put right", x.bias(0, 1), -2000);
        Check.due("bad ahead of no", x.bias(0, 101), -1000);
        Check.due("another gauge", x.bias(2, 1), 0);
    }

    private static void guesses() {
        Check.promise(18);
        HullKeepers x = withPlates(3);
        x.months(10);
        Check.due("none", x.guess(2, 10, 10), HullKeepers.NONE);
        Check.due("bad", x.guess(3, 10, 10), HullKeepers.BAD);
        Check.due("bad", x.guess(-1, 10, 10), HullKeepers.BAD);
        Check.due("bad", x.guess(2, 600, 10), HullKeepers.BAD);
        Check.due("bad", x.guess(2, -1, 10), HullKeepers.BAD);
        Check.due("bad", x.guess(2, 1, 600), HullKeepers.BAD);
        Check.due("bad", x.guess(2, 1, -1), HullKeepers.BAD);
        x.reading(2, 4, 0, 500, 6);
        Check.due("not known yet", x.guess(2, 10, 5), HullKeepers.NONE);
        Check.due("known", x.guess(2, 10, 6), 488);
        Check.due("in its month", x.guess(2, 4, 6), 500);
        Check.due("ahead of its month", x.guess(2, 3, 6), HullKeepers.NONE);
        x.reading(2, 4, 1, 600, 8);
        Check.due("of one month the later number", x.guess(2, 4, 8), 600);
        x.reading(2, 3, 1, 700, 8);
        Check.due("an earlier month", x.guess(2, 4, 8), 600);
        Check.due("an earlier month", x.guess(2, 3, 8), 700);
        x.bias(1, -20);
        x.right(1, 30, 9);
        Check.due("the bias known then", x.guess(2, 4, 8), 620);
        Check.due("the bias put right", x.guess(2, 4, 9), 570);
        x.wear(2, 50);
        Check.due("the wear now", x.guess(2, 5, 9), 520);
        Check.due("0 at least", x.guess(2, 599, 9), 0);
        x.reading(1, 0, 0, -5, 0);
        Check.due("0 at least", x.guess(1, 0, 0), 0);
        x.reading(1, 0, 2, MAX, 0);
        x.bias(2, 7);
        Check.due("the largest number", x.guess(1, 0, 0), MAX - 7);
        x.bias(2, -7);
        Check.due("no more than an int", x.guess(1, 0, 0), MAX);
        Check.due("exact", x.guess(1, 3, 0), MAX - 5);
    }

    private static void dues() {
        Check.promise(19);
        HullKeepers x = withPlates(3);
        x.months(10);
        Check.due("none", x.due(2, 10), HullKeepers.NONE);
        Check.due("bad", x.due(3, 10), HullKeepers.BAD);
        Check.due("bad", x.due(-1, 10), HullKeepers.BAD);
        Check.due("bad", x.due(2, 600), HullKeepers.BAD);
        Check.due("bad", x.due(2, -1), HullKeepers.BAD);
        x.reading(2, 4, 0, 310, 4);
        Check.due("at the bound it is not due", x.due(2, 4), 10);
        x.reading(2, 5, 0, 299, 5);
        Check.due("at once", x.due(2, 5), 5);
        Check.due("as known ahead", x.due(2, 4), 10);
        x.reading(2, 9, 0, 1479, 9);
        Check.due("none by 599", x.due(2, 9), 599);
        x.reading(2, 9, 0, 1480, 9);
        Check.due("none by 599", x.due(2, 9), HullKeepers.NONE);
        x.wear(2, 0);
        Check.due("no wear", x.due(2, 4), HullKeepers.NONE);
        Check.due("no wear, but below", x.due(2, 5), 5);
        x.bound(0);
        Check.due("nothing is below 0", x.due(2, 5), HullKeepers.NONE);
        x.bound(1);
        x.wear(2, 50);
        Check.due("0 is below 1", x.due(2, 5), 11);
        x.reading(1, 3, 0, -1, 3);
        Check.due("below 0 is 0", x.due(1, 3), 3);
        x.bound(0);
        Check.due("a number below 0 is not below a bound of 0", x.due(1, 3), HullKeepers.NONE);
    }

    private static void firsts() {
        Check.promise(20);
        HullKeepers x = withPlates(6);
        Check.due("bad", x.first(2, 0), HullKeepers.BAD);
        Check.due("bad", x.first(-1, 0), HullKeepers.BAD);
        Check.due("bad", x.first(0, 600), HullKeepers.BAD);
        Check.due("bad", x.first(0, -1), HullKeepers.BAD);
        Check.due("none", x.first(0, 0), HullKeepers.NONE);
        x.reading(5, 0, 0, 400, 0);
        Check.due("one", x.first(0, 0), 5);
        x.reading(2, 0, 0, 400, 1);
        Check.due("not known yet", x.first(0, 0), 5);
        Check.due("of like ones the least", x.first(0, 1), 2);
        x.reading(4, 0, 0, 301, 1);
        Check.due("the first", x.first(0, 1), 4);
        Check.due("of another ship", x.first(1, 1), HullKeepers.NONE);
        x.move(4, 1);
        Check.due("moved", x.first(1, 1), 4);
        Check.due("moved", x.first(0, 1), 2);
    }

    private static void againstModel() {
        Random random = new Random(20);
        for (int run = 0; run < 300; run++) {
            Model m = new Model(random);
            for (int k = run % 31; k < 62; k += 31) {
                sameAsKnown(m, k);
            }
        }
    }

    private static void sameAsKnown(Model m, int k) {
        int firstPlate = -1;
        int firstMonth = 1000;
        for (int p = 0; p < 3; p++) {
            Check.promise(18);
            for (int month = 0; month < 60; month++) {
                Check.due("guess", m.x.guess(p, month, k), m.guess(p, month, k)[0]);
            }
            int due = m.due(p, k);
            Check.promise(19);
            Check.due("due", m.x.due(p, k), due);
            if (due >= 0 && due < firstMonth) {
                firstMonth = due;
                firstPlate = p;
            }
        }
        Check.promise(20);
        Check.due("first", m.x.first(0, k), firstPlate);
    }

    /** Readings and gauges at random, told to an object and kept here in the plainest way. */
    private static final class Model {
        final HullKeepers x = withPlates(3);
        final int[] wears = {1, 4, 2}, biases = new int[4], rights = new int[4];
        final int[] rightKnown = {1000, 1000, 1000, 1000};
        final List<int[]> told = new ArrayList<>();
        final int bound;

        Model(Random random) {
            x.months(40);
            for (int i = 0; i < 30; i++) {
                int month = random.nextInt(41);
                int[] r = {random.nextInt(3), month, random.nextInt(4), random.nextInt(900), month + random.nextInt(20)};
                told.add(r);
                x.reading(r[0], r[1], r[2], r[3], r[4]);
            }
            for (int g = 0; g < 4; g++) {
                biases[g] = random.nextInt(201) - 100;
                x.bias(g, biases[g]);
                if (random.nextBoolean()) {
                    rights[g] = random.nextInt(201) - 100;
                    rightKnown[g] = random.nextInt(60);
                    x.right(g, rights[g], rightKnown[g]);
                }
            }
            bound = random.nextInt(400);
            x.bound(bound);
        }

        /** The guess, and the month of its reading. */
        int[] guess(int plate, int month, int k) {
            int[] answer = {-1, -1};
            for (int[] r : told) {
                if (r[0] == plate && r[1] <= month && r[1] >= answer[1] && r[4] <= k) {
                    int bias = rightKnown[r[2]] <= k ? rights[r[2]] : biases[r[2]];
                    answer[0] = Math.max(0, r[3] - bias - wears[plate % 3] * (month - r[1]));
                    answer[1] = r[1];
                }
            }
            return answer;
        }

        int due(int plate, int k) {
            int start = guess(plate, 599, k)[1];
            for (int month = start; start >= 0 && month <= 599; month++) {
                if (guess(plate, month, k)[0] < bound) {
                    return month;
                }
            }
            return -1;
        }
    }
}
