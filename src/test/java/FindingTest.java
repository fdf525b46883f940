import java.util.ArrayList;
import java.util.List;
import java.util.Random;

/** Promises 31 to 38: tests and leaks, waves and tows, hands and works. */
final class FindingTest {
    private FindingTest() {
    }

    static void run() {
        tests();
        leaks();
        tows();
        hands();
        doneByHand();
        randomLeaks();
        randomTows();
        randomDone();
    }

    private static void tests() {
        Check.promise(31);
        HullKeepers x = new HullKeepers();
        Check.due("bad", x.test(-1, true), HullKeepers.BAD);
        Check.due("bad", x.test(4096, false), HullKeepers.BAD);
        for (int i = 0; i < 20; i++) {
            Check.due("test", x.test(i == 0 ? 4095 : 0, i == 0), i);
        }
        Check.due("full", x.test(1, true), HullKeepers.FULL);
        Check.due("bad ahead of full", x.test(4096, true), HullKeepers.BAD);
        Check.due("count", x.count(4), 20);
        Check.promise(32);
        Check.due("drain", x.drain(), 20);
        Check.due("drain", x.drain(), 0);
        Check.due("count", x.count(4), 0);
        Check.due("anew", x.test(1, true), 0);
        Check.due("anew", x.leaks(0), 1);
    }

    private static void leaks() {
        Check.promise(33);
        HullKeepers x = new HullKeepers();
        Check.due("bad", x.leaks(2), HullKeepers.BAD);
        Check.due("bad", x.leaks(-1), HullKeepers.BAD);
        Check.due("no test: no leak", x.leaks(0), 0);
        Check.due("no test: no rival", x.leaks(1), 0);
        x.test(7, true);
        Check.due("least", x.leaks(0), 1);
        Check.due("rivals", x.leaks(1), 2);
        x.test(1, false);
        Check.due("least", x.leaks(0), 2);
        Check.due("rivals", x.leaks(1), 1);
        x.test(4095 - 3, true);
        Check.due("least", x.leaks(0), 4);
        Check.due("rivals", x.leaks(1), 0);
        x.test(4, false);
        Check.due("two", x.leaks(0), 10);
        Check.due("rivals", x.leaks(1), 8);
        x.test(0, false);
        Check.due("a dry test of nothing", x.leaks(0), 10);
        x.test(0, true);
        Check.due("a wet test of nothing", x.leaks(0), HullKeepers.NONE);
        Check.due("no rivals of none", x.leaks(1), HullKeepers.NONE);
        x.drain();
        for (int i = 0; i < 12; i++) {
            x.test(1 << i, true);
        }
        Check.due("all places", x.leaks(0), 4095);
        Check.due("all places: no rival", x.leaks(1), 0);
    }

    private static void tows() {
        Check.promise(34);
        HullKeepers x = new HullKeepers();
        Check.due("bad", x.wave(-1, 0), HullKeepers.BAD);
        Check.due("bad", x.wave(90, 0), HullKeepers.BAD);
        Check.due("bad", x.wave(0, -1), HullKeepers.BAD);
        Check.due("bad", x.wave(0, 101), HullKeepers.BAD);
        Check.due("wave", x.wave(10, 100), 0);
        Check.due("wave", x.wave(10, 50), 100);
        Check.due("wave", x.wave(89, 50), 0);
        Check.promise(35);
        Check.due("bad", x.tow(0, 0, 0), HullKeepers.BAD);
        Check.due("bad", x.tow(31, 0, 0), HullKeepers.BAD);
        Check.due("bad", x.tow(1, -1, 0), HullKeepers.BAD);
        Check.due("bad", x.tow(1, 101, 0), HullKeepers.BAD);
        Check.due("bad", x.tow(1, 0, -1), HullKeepers.BAD);
        Check.due("bad", x.tow(1, 0, 90), HullKeepers.BAD);
        Check.due("just ahead of the wave", x.tow(10, 49, 0), 0);
        Check.due("behind the wave", x.tow(11, 49, 0), 11);
        Check.due("behind the wave", x.tow(10, 49, 1), 11);
        Check.due("no strength", x.tow(10, 0, 1), 11);
        Check.due("not above", x.tow(11, 50, 0), 0);
        Check.due("the last days", x.tow(30, 50, 60), 60);
        Check.due("past the last day", x.tow(30, 50, 61), HullKeepers.NONE);
        Check.due("the last day", x.tow(1, 50, 89), 89);
        Check.due("the last day", x.tow(1, 49, 89), HullKeepers.NONE);
    }

    private static void hands() {
        Check.promise(36);
        HullKeepers x = new HullKeepers();
        int[][] badHands = {{-1, 1}, {32, 1}, {0, 0}, {0, 61}};
        for (int[] b : badHands) {
            Check.due("hand bad", x.hand(b[0], b[1]), HullKeepers.BAD);
        }
        for (int i = 0; i < 8; i++) {
            Check.due("hand", x.hand(i % 2 * 31, i == 0 ? 1 : 60), i);
        }
        Check.due("full", x.hand(0, 1), HullKeepers.FULL);
        Check.due("bad ahead of full", x.hand(32, 1), HullKeepers.BAD);
        Check.due("count", x.count(5), 8);
        Check.promise(37);
        int[][] badWorks = {{-1, 1, 1}, {5, 1, 1}, {0, 0, 1}, {0, 101, 1}, {0, 1, 0}, {0, 1, 101}};
        for (int[] b : badWorks) {
            Check.due("work bad", x.work(b[0], b[1], b[2]), HullKeepers.BAD);
        }
        for (int i = 0; i < 8; i++) {
            Check.due("work", x.work(i % 5, i == 0 ? 1 : 100, 100), i);
        }
        Check.due("full", x.work(0, 1, 1), HullKeepers.FULL);
        Check.due("bad ahead of full", x.work(5, 1, 1), HullKeepers.BAD);
        Check.due("count", x.count(6), 8);
    }

    private static void doneByHand() {
        Check.promise(38);
        HullKeepers x = new HullKeepers();
        Check.due("bad", x.done(2), HullKeepers.BAD);
        Check.due("bad", x.done(-1), HullKeepers.BAD);
        Check.due("nothing", x.done(0), 0);
        Check.due("nothing", x.done(1), 0);
        x.work(0, 5, 7);
        Check.due("no hands", x.done(0), 0);
        x.hand(0, 60);
        Check.due("a hand with no trade", x.done(0), 0);
        x.hand(3, 3);
        Check.due("too few hours", x.done(0), 0);
        x.hand(1, 2);
        Check.due("just enough", x.done(0), 1);
        Check.due("worth", x.done(1), 7);
        x.work(1, 3, 7);
        Check.due("of like ones the least", x.done(0), 1);
        x.work(1, 2, 1);
        Check.due("the least", x.done(0), 1);
        x.hand(2, 2);
        Check.due("hours in parts", x.done(0), 5);
        Check.due("worth", x.done(1), 8);
        HullKeepers y = new HullKeepers();
        y.hand(31, 4);
        for (int trade = 0; trade < 5; trade++) {
            y.work(trade, 1, 1);
        }
        Check.due("one hand for all trades, an hour short", y.done(0), 15);
        y.hand(16, 1);
        Check.due("and no more", y.done(0), 31);
    }

    private static void randomLeaks() {
        Check.promise(33);
        Random random = new Random(33);
        for (int run = 0; run < 300; run++) {
            HullKeepers x = new HullKeepers();
            int leaky = random.nextInt(4096) & random.nextInt(4096) & random.nextInt(4096);
            List<int[]> told = new ArrayList<>();
            int many = random.nextInt(12);
            for (int i = 0; i < many; i++) {
                int places = random.nextInt(4096) & random.nextInt(4096);
                boolean wet = random.nextInt(30) == 0 ? random.nextBoolean() : (places & leaky) != 0;
                told.add(new int[] {places, wet ? 1 : 0});
                x.test(places, wet);
            }
            int best = -1;
            int rivals = -1;
            for (int size = 0; size <= 12 && best < 0; size++) {
                for (int set = 0; set < 4096; set++) {
                    boolean fits = Integer.bitCount(set) == size;
                    for (int[] t : told) {
                        fits &= ((t[0] & set) != 0) == (t[1] == 1);
                    }
                    if (fits) {
                        rivals++;
                        best = best < 0 ? set : best;
                    }
                }
            }
            Check.due("leaks", x.leaks(0), best);
            Check.due("rivals", x.leaks(1), rivals);
        }
    }

    private static void randomTows() {
        Check.promise(35);
        Random random = new Random(35);
        HullKeepers x = new HullKeepers();
        int[] waves = new int[90];
        for (int run = 0; run < 2500; run++) {
            if (run % 250 == 0) {
                x = new HullKeepers();
                waves = new int[90];
            }
            int day = random.nextInt(90);
            int v = random.nextInt(101);
            Check.due("wave", x.wave(day, v), waves[day]);
            waves[day] = v;
            int n = 1 + random.nextInt(10);
            int strength = 50 + random.nextInt(51);
            int from = random.nextInt(90);
            int due = -1;
            for (int start = 89; start >= from; start--) {
                boolean calm = start + n <= 90;
                for (int i = start; i < start + n && i < 90; i++) {
                    calm &= waves[i] <= strength;
                }
                due = calm ? start : due;
            }
            Check.due("tow", x.tow(n, strength, from), due);
        }
    }

    private static void randomDone() {
        Check.promise(38);
        Random random = new Random(38);
        for (int run = 0; run < 200; run++) {
            HullKeepers x = new HullKeepers();
            int[][] hands = new int[random.nextInt(9)][];
            int[][] works = new int[random.nextInt(9)][];
            for (int i = 0; i < hands.length; i++) {
                hands[i] = new int[] {random.nextInt(32) & random.nextInt(32), 1 + random.nextInt(20)};
                x.hand(hands[i][0], hands[i][1]);
            }
            for (int i = 0; i < works.length; i++) {
                works[i] = new int[] {random.nextInt(5), 1 + random.nextInt(25), 1 + random.nextInt(12)};
                x.work(works[i][0], works[i][1], works[i][2]);
            }
            int best = 0;
            int bestWorth = 0;
            for (int set = 1; set < 1 << works.length; set++) {
                int worth = 0;
                for (int i = 0; i < works.length; i++) {
                    worth += (set >> i & 1) * works[i][2];
                }
                if (worth > bestWorth && canDo(hands, works, set)) {
                    best = set;
                    bestWorth = worth;
                }
            }
            Check.due("done", x.done(0), best);
            Check.due("worth", x.done(1), bestWorth);
        }
    }

    /** Gives hour by hour, each time moving hours that were given already where that makes room. */
    static boolean canDo(int[][] hands, int[][] works, int set) {
        int[][] given = new int[hands.length][5];
        int[] left = new int[hands.length];
        for (int i = 0; i < hands.length; i++) {
            left[i] = hands[i][1];
        }
        for (int w = 0; w < works.length; w++) {
            for (int hour = 0; (set >> w & 1) == 1 && hour < works[w][1]; hour++) {
                if (!give(hands, given, left, works[w][0], 0)) {
                    return false;
                }
            }
        }
        return true;
    }

    private static boolean give(int[][] hands, int[][] given, int[] left, int trade, int seen) {
        for (int i = 0; i < hands.length; i++) {
            if ((hands[i][0] >> trade & 1) == 1 && left[i] > 0) {
                left[i]--;
                given[i][trade]++;
                return true;
            }
        }
        int tried = seen | 1 << trade;
        for (int i = 0; i < hands.length; i++) {
            for (int t = 0; t < 5; t++) {
                if ((hands[i][0] >> trade & 1) == 1 && (tried >> t & 1) == 0 && given[i][t] > 0
                        && give(hands, given, left, t, tried)) {
                    given[i][t]--;
                    given[i][trade]++;
                    return true;
                }
            }
        }
        return false;
    }
}
