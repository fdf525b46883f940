/** Promises 31 to 38: each sentence on tests, tows, hands and works that names a boundary has a method of its own here. */
final class FindingEdgesTest {
    private static final int NONE = HullKeepers.NONE, BAD = HullKeepers.BAD, FULL = HullKeepers.FULL;

    private FindingEdgesTest() {
    }

    static void run() {
        twentyTests();
        drainedAtTheEdges();
        leaksOfNoTest();
        leaksOfEachPlace();
        leaksOfAllPlaces();
        testsOfNoPlace();
        noLeaksFit();
        fewestThenLeast();
        rivalsAreTheOthers();
        wavesAtTheEnds();
        towsByTheStrength();
        towsByDay89();
        towsOfEveryLength();
        eightHandsAndWorks();
        nothingDone();
        hoursAtTheEdges();
        tradesAtTheEdges();
        hoursInAnyParts();
        leastOfLikeWorth();
        allWorksDone();
    }

    private static void twentyTests() {
        Check.promise(31);
        HullKeepers x = new HullKeepers();
        for (int i = 0; i < 20; i++) {
            Check.due("a refused one takes no number", x.test(4096, true), BAD);
            Check.due("test", x.test(i == 0 ? 0 : 4095, i != 0), i);
            Check.due("how many", x.count(4), i + 1);
        }
        Check.due("a 21st", x.test(0, false), FULL);
        Check.due("how many", x.count(4), 20);
        x.drain();
        Check.due("numbers begin anew", x.test(0, false), 0);
    }

    private static void drainedAtTheEdges() {
        Check.promise(32);
        HullKeepers x = new HullKeepers();
        Check.due("none", x.drain(), 0);
        x.test(4095, true);
        Check.due("one", x.drain(), 1);
        for (int i = 0; i < 21; i++) {
            x.test(1, true);
        }
        Check.due("twenty", x.drain(), 20);
        Check.due("none any more", x.drain(), 0);
        leaksAre(x, 0, 0);
    }

    private static void leaksAre(HullKeepers x, int found, int rivals) {
        Check.due("leaks found", x.leaks(0), found);
        Check.due("rivals", x.leaks(1), rivals);
    }

    private static void leaksOfNoTest() {
        Check.promise(33);
        HullKeepers x = new HullKeepers();
        leaksAre(x, 0, 0);
        x.test(4095, false);
        leaksAre(x, 0, 0);
        Check.due("below", x.leaks(-1), BAD);
        Check.due("above", x.leaks(2), BAD);
    }

    private static void leaksOfEachPlace() {
        Check.promise(33);
        for (int place = 0; place < 12; place++) {
            HullKeepers x = new HullKeepers();
            x.test(1 << place, true);
            leaksAre(x, 1 << place, 0);
            x.test(4095 - (1 << place), false);
            leaksAre(x, 1 << place, 0);
            x.test(1 << place, false);
            leaksAre(x, NONE, NONE);
        }
    }

    private static void leaksOfAllPlaces() {
        Check.promise(33);
        HullKeepers x = new HullKeepers();
        x.test(4095, true);
        leaksAre(x, 1, 11);
        for (int place = 11; place >= 0; place--) {
            x.test(1 << place, true);
        }
        leaksAre(x, 4095, 0);
    }

    private static void testsOfNoPlace() {
        Check.promise(33);
        HullKeepers x = new HullKeepers();
        x.test(0, false);
        leaksAre(x, 0, 0);
        x.test(8, true);
        leaksAre(x, 8, 0);
        x.test(0, true);
        leaksAre(x, NONE, NONE);
    }

    private static void noLeaksFit() {
        Check.promise(33);
        HullKeepers x = new HullKeepers();
        x.test(3, true);
        x.test(1, false);
        leaksAre(x, 2, 0);
        x.test(2, false);
        leaksAre(x, NONE, NONE);
        x.test(4095, true);
        leaksAre(x, NONE, NONE);
        x.drain();
        leaksAre(x, 0, 0);
    }

    private static void fewestThenLeast() {
        Check.promise(33);
        HullKeepers x = new HullKeepers();
        // place 11 is in all: one place, though its number is above that of places 0, 1 and 2
        x.test(2048 + 1, true);
        x.test(2048 + 2, true);
        x.test(2048 + 4, true);
        leaksAre(x, 2048, 0);
        x.test(2048, false);
        leaksAre(x, 7, 0);
        HullKeepers y = new HullKeepers();
        y.test(6, true);
        y.test(12, true);
        leaksAre(y, 4, 0);
        y.test(48, true);
        leaksAre(y, 20, 1);
    }

    private static void rivalsAreTheOthers() {
        Check.promise(33);
        HullKeepers x = new HullKeepers();
        x.test(3, true);
        leaksAre(x, 1, 1);
        x.test(12, true);
        leaksAre(x, 5, 3);
        x.test(48, true);
        leaksAre(x, 21, 7);
        x.test(3, true);
        leaksAre(x, 21, 7);
        x.test(2, false);
        leaksAre(x, 21, 3);
    }

    private static void wavesAtTheEnds() {
        Check.promise(34);
        HullKeepers x = new HullKeepers();
        for (int day = 0; day < 90; day += 89) {
            Check.due("at first", x.wave(day, 100), 0);
            Check.due("the most", x.wave(day, 0), 100);
            Check.due("the least", x.wave(day, 1), 0);
            Check.due("between", x.wave(day, 0), 1);
        }
        Check.due("a day that is none", x.wave(90, 1), BAD);
        Check.due("a day that is none", x.wave(-1, 1), BAD);
    }

    private static void towsByTheStrength() {
        Check.promise(35);
        HullKeepers x = new HullKeepers();
        Check.due("no wave, no strength", x.tow(1, 0, 0), 0);
        x.wave(0, 1);
        Check.due("a wave above no strength", x.tow(1, 0, 0), 1);
        Check.due("a wave as the strength", x.tow(1, 1, 0), 0);
        x.wave(0, 100);
        Check.due("one less than the most", x.tow(1, 99, 0), 1);
        Check.due("the most", x.tow(1, 100, 0), 0);
        x.wave(2, 50);
        Check.due("two days between waves", x.tow(2, 49, 0), 3);
        Check.due("two days, the wave among them", x.tow(2, 50, 0), 1);
    }

    private static void towsByDay89() {
        Check.promise(35);
        HullKeepers x = new HullKeepers();
        Check.due("the last day", x.tow(1, 0, 89), 89);
        Check.due("two days from the last", x.tow(2, 0, 89), NONE);
        Check.due("two days from the one ahead", x.tow(2, 0, 88), 88);
        Check.due("thirty days to the last", x.tow(30, 0, 60), 60);
        Check.due("thirty days past the last", x.tow(30, 0, 61), NONE);
        x.wave(89, 1);
        Check.due("a wave on the last day", x.tow(30, 0, 60), NONE);
        Check.due("a wave on the last day", x.tow(30, 0, 59), 59);
        Check.due("a wave on the last day", x.tow(1, 0, 89), NONE);
        Check.due("a day that is none", x.tow(1, 0, 90), BAD);
        x.wave(0, 1);
        Check.due("a wave on the first day", x.tow(30, 0, 0), 1);
    }

    private static void towsOfEveryLength() {
        Check.promise(35);
        HullKeepers x = new HullKeepers();
        // waves on days 1, 3, 6, 10, .. 78: each calm between them is a day longer
        for (int day = 1, step = 2; day < 90; day += step++) {
            x.wave(day, 9);
        }
        Check.due("one day", x.tow(1, 8, 0), 0);
        for (int n = 2; n <= 11; n++) {
            int start = n * (n + 1) / 2 + 1;
            Check.due(n + " days", x.tow(n, 8, 0), start);
            Check.due(n + " days from their first on", x.tow(n, 8, start), start);
            Check.due(n + " days from their second on", x.tow(n, 8, start + 1), n < 11 ? start + n + 1 : 79);
        }
        Check.due("12 days", x.tow(12, 8, 0), NONE);
        Check.due("12 days with the strength", x.tow(12, 9, 0), 0);
    }

    private static void eightHandsAndWorks() {
        Check.promise(36);
        HullKeepers x = new HullKeepers();
        for (int i = 0; i < 8; i++) {
            Check.due("a refused one takes no number", x.hand(32, 1), BAD);
            Check.due("hand", x.hand(31, 60), i);
            Check.due("how many", x.count(5), i + 1);
        }
        Check.due("a ninth", x.hand(31, 60), FULL);
        Check.due("how many", x.count(5), 8);
        Check.promise(37);
        for (int i = 0; i < 8; i++) {
            Check.due("a refused one takes no number", x.work(5, 1, 1), BAD);
            Check.due("work", x.work(4, 100, 100), i);
            Check.due("how many", x.count(6), i + 1);
        }
        Check.due("a ninth", x.work(4, 100, 100), FULL);
        Check.due("how many", x.count(6), 8);
    }

    private static void doneIs(HullKeepers x, int set, int worth) {
        Check.due("done", x.done(0), set);
        Check.due("worth", x.done(1), worth);
    }

    private static void nothingDone() {
        Check.promise(38);
        HullKeepers x = new HullKeepers();
        doneIs(x, 0, 0);
        x.image(0);
        x.hand(31, 60);
        doneIs(x, 0, 0);
        x.work(0, 61, 100);
        doneIs(x, 0, 0);
        x.work(0, 60, 1);
        doneIs(x, 2, 1);
        x.from(0);
        doneIs(x, 0, 0);
        x.work(0, 1, 100);
        doneIs(x, 0, 0);
        x.hand(0, 60);
        doneIs(x, 0, 0);
        x.hand(30, 60);
        doneIs(x, 0, 0);
    }

    private static void hoursAtTheEdges() {
        Check.promise(38);
        HullKeepers x = new HullKeepers();
        x.hand(1, 60);
        x.hand(1, 39);
        x.work(0, 100, 5);
        doneIs(x, 0, 0);
        x.hand(1, 1);
        doneIs(x, 1, 5);
        x.work(0, 1, 4);
        doneIs(x, 1, 5);
        x.hand(1, 1);
        doneIs(x, 3, 9);
    }

    private static void tradesAtTheEdges() {
        Check.promise(38);
        for (int trade = 0; trade < 5; trade++) {
            HullKeepers x = new HullKeepers();
            x.work(trade, 1, 1);
            x.hand(31 - (1 << trade), 60);
            doneIs(x, 0, 0);
            x.hand(1 << trade, 1);
            doneIs(x, 1, 1);
        }
    }

    private static void hoursInAnyParts() {
        Check.promise(38);
        HullKeepers x = new HullKeepers();
        x.hand(3, 10);
        x.hand(6, 10);
        x.work(0, 5, 1);
        x.work(1, 10, 1);
        x.work(2, 5, 1);
        doneIs(x, 7, 3);
        HullKeepers y = new HullKeepers();
        y.hand(3, 10);
        y.hand(6, 10);
        y.work(0, 5, 1);
        y.work(1, 11, 1);
        y.work(2, 5, 1);
        doneIs(y, 3, 2);
        HullKeepers z = new HullKeepers();
        z.hand(3, 10);
        z.hand(6, 10);
        z.work(0, 11, 9);
        z.work(1, 20, 1);
        doneIs(z, 2, 1);
    }

    private static void leastOfLikeWorth() {
        Check.promise(38);
        HullKeepers x = new HullKeepers();
        x.hand(1, 10);
        x.work(0, 10, 5);
        x.work(0, 10, 5);
        doneIs(x, 1, 5);
        x.work(0, 5, 2);
        x.work(0, 5, 3);
        doneIs(x, 1, 5);
        x.work(0, 5, 3);
        doneIs(x, 24, 6);
        x.work(0, 10, 6);
        doneIs(x, 24, 6);
        x.work(0, 10, 7);
        doneIs(x, 64, 7);
    }

    private static void allWorksDone() {
        Check.promise(38);
        HullKeepers x = new HullKeepers();
        for (int i = 0; i < 8; i++) {
            x.hand(31, 60);
            x.work(i % 5, 60, 100);
        }
        doneIs(x, 255, 800);
        HullKeepers y = new HullKeepers();
        for (int i = 0; i < 8; i++) {
            y.hand(31, 60);
            y.work(i % 5, i == 7 ? 61 : 60, 100);
        }
        doneIs(y, 127, 700);
    }
}
