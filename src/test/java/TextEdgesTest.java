/** Promises 21 to 26: each sentence on texts and charters that names a boundary has a method of its own here. */
final class TextEdgesTest {
    private static final int NONE = HullKeepers.NONE, BAD = HullKeepers.BAD, FULL = HullKeepers.FULL;
    private static final long NO_TELLING = -3000000000000000000L;
    private static final int DRY = 0;

    private TextEdgesTest() {
    }

    static void run() {
        sixtyCharacters();
        theFirstAndTheLastCharacter();
        erasedAtTheEdges();
        tooEarly();
        atTheFirstAndTheLastPlace();
        everyCharacterByItself();
        blanksButNotWithinDigits();
        sixDigits();
        eightOpen();
        heldOnce();
        theFirstFaultIsTold();
        faultWithoutPlates();
        longsWrap();
        dividedTowardZero();
        truthsAreOneAndZero();
        lettersAtTheirEnds();
        charterOfEachText();
        unlikeOfNoneAndOfAll();
        unlikeByFaults();
    }

    private static HullKeepers withText(String signs) {
        HullKeepers x = new HullKeepers();
        x.ship(1000, 500, 1, 0);
        x.plate(0, DRY, 700, 60, -20);
        TextsTest.write(x, 0, signs);
        return x;
    }

    private static void fault(String signs, int due) {
        Check.due("fault of \"" + signs + "\"", withText(signs).fault(0), due);
        Check.due("tells of \"" + signs + "\"", withText(signs).tells(0, 0) == NO_TELLING ? 1 : 0, due == NONE ? 0 : 1);
    }

    private static void tells(String signs, long due) {
        Check.due("\"" + signs + "\"", withText(signs).tells(0, 0), due);
    }

    private static void sixtyCharacters() {
        Check.promise(21);
        HullKeepers x = new HullKeepers();
        for (int text = 0; text < 4; text++) {
            for (int i = 1; i <= 60; i++) {
                Check.due("how many", x.write(text, '-'), i);
            }
            Check.due("a 61st", x.write(text, '-'), FULL);
            Check.due("a 61st, again", x.write(text, 't'), FULL);
            Check.due("its last place is told", x.fault(text), 601);
            x.erase(text);
        }
        TextsTest.write(x, 1, "-".repeat(59) + "t");
        Check.due("the 60th counts", x.fault(1), NONE);
        Check.due("another is empty", x.fault(0), 1);
    }

    private static void theFirstAndTheLastCharacter() {
        Check.promise(21);
        HullKeepers x = new HullKeepers();
        long empty = x.digest();
        Check.due("the least", x.write(0, 0), 1);
        long withZero = x.digest();
        Check.holds("a character 0 is one", withZero != empty);
        Check.due("the most", x.write(0, 127), 2);
        Check.due("one more", x.write(0, 128), BAD);
        Check.due("one less", x.write(0, -1), BAD);
        Check.due("behind", x.write(0, 0), 3);
        Check.due("a character 0 can not stand there", x.fault(0), 1);
    }

    private static void erasedAtTheEdges() {
        Check.promise(22);
        HullKeepers x = withText("t".repeat(60));
        Check.due("60", x.erase(0), 60);
        Check.due("empty", x.erase(0), 0);
        Check.due("too early", x.fault(0), 1);
        Check.due("full no more", x.write(0, '7'), 1);
        Check.due("nothing of the old text", x.tells(0, 0), 7);
        Check.due("one", x.erase(0), 1);
    }

    private static void tooEarly() {
        Check.promise(23);
        fault("", 1);
        fault(" ", 11);
        fault(" ".repeat(60), 601);
        String[] begun = {"!", "-", "(", "1+", "1-", "1*", "1/", "1<", "1>", "1=", "1&", "1|", "(1", "((1)", "t+(", "(t|"};
        for (String signs : begun) {
            fault(signs, 10 * signs.length() + 1);
            fault(signs + "  ", 10 * signs.length() + 21);
        }
        fault("t+" + "-".repeat(58), 601);
        fault("(".repeat(8) + "t" + ")".repeat(7), 161);
    }

    private static void atTheFirstAndTheLastPlace() {
        Check.promise(23);
        fault(")", 1);
        fault("*t", 1);
        fault(")" + "t".repeat(59), 1);
        fault("-".repeat(58) + "t)", 591);
        fault("-".repeat(58) + "tt", 591);
        fault("-".repeat(59) + "x", 591);
        fault(" ".repeat(59) + "t", NONE);
        fault("t" + " ".repeat(59), NONE);
        fault("t" + " ".repeat(58) + "t", 591);
        fault("1+".repeat(29) + "11", NONE);
    }

    /** Where a unit must stand, where an operator may, and behind a whole text: for all 128 characters. */
    private static void everyCharacterByItself() {
        Check.promise(23);
        for (char c = 0; c < 128; c++) {
            String sign = String.valueOf(c);
            boolean whole = "tyzsfm0123456789".indexOf(c) >= 0;
            boolean begins = "!-( ".indexOf(c) >= 0;
            fault(sign, whole ? NONE : begins ? 11 : 1);
            boolean binds = "+-*/<>=&|".indexOf(c) >= 0;
            fault("t" + sign, c == ' ' ? NONE : binds ? 21 : 11);
            fault("t" + sign + "t", binds ? NONE : c == ' ' ? 21 : 11);
            fault("(t" + sign, c == ')' ? NONE : binds || c == ' ' ? 31 : 21);
        }
    }

    private static void blanksButNotWithinDigits() {
        Check.promise(23);
        fault("  (  t  +  !  -  1  )  <  2  ", NONE);
        fault("12 34", 31);
        fault("1 2", 21);
        fault("123456 7", 71);
        fault("1234567 8", 2);
        fault("t t", 21);
        fault("1\t+2", 11);
        fault("1\n", 11);
        tells("  (  t  +  !  -  1  )  <  2  ", 0);
        tells(" 12  ", 12);
    }

    private static void sixDigits() {
        Check.promise(23);
        fault("9", NONE);
        fault("999999", NONE);
        fault("000000", NONE);
        fault("9999999", 2);
        fault("0000000", 2);
        fault("00000000000", 2);
        fault(" 1234567", 12);
        fault("999999+999999", NONE);
        fault("999999+9999999", 72);
        fault("(((1234567", 32);
        fault("-".repeat(53) + "1234567", 532);
        fault("-".repeat(54) + "123456", NONE);
        tells("999999", 999999);
        tells("000001", 1);
        tells("000000", 0);
    }

    private static void eightOpen() {
        Check.promise(23);
        String eight = "(".repeat(8);
        fault(eight + "1" + ")".repeat(8), NONE);
        fault("(" + eight + "1" + ")".repeat(9), 83);
        fault(eight + "1" + ")".repeat(8) + "+" + eight + "1" + ")".repeat(8), NONE);
        fault("(((((((1)+(1)+(1)))))))", NONE);
        fault("(((((((1)+((1)+(1))))))))", NONE);
        fault("(((((((1+(2+(3", 123);
        fault("!(-(!(-(!(-(!(-((", 163);
        fault(eight + "1)" + "+((", 123);
        fault(eight + "1)" + "+(2)+(", 161);
        fault(" ( ( ( ( ( ( ( ( (", 173);
        fault("(".repeat(60), 83);
        fault("1" + "(".repeat(9), 11);
        tells(eight + "t" + ")".repeat(8), 700);
    }

    private static void heldOnce() {
        Check.promise(23);
        String[] signs = {"<", ">", "="};
        for (String a : signs) {
            fault("1" + a + "2", NONE);
            for (String b : signs) {
                fault("1" + a + "2" + b + "3", 31);
                fault("(1" + a + "2)" + b + "3", NONE);
                fault("1" + a + "(2" + b + "3)", NONE);
                fault("1" + a + "2&3" + b + "4", NONE);
                fault("1" + a + "2|3" + b + "4", NONE);
                fault("(1" + a + "2" + b + "3)", 41);
                fault("1" + a + b + "2", 21);
            }
        }
    }

    private static void theFirstFaultIsTold() {
        Check.promise(23);
        fault("1234567)", 2);
        fault("1234567+(((((((((", 2);
        fault("(((((((((1234567", 83);
        fault("((((((((1234567(", 82);
        fault("t)1234567", 11);
        fault("+1234567", 1);
        fault("x(", 1);
        fault("(x", 11);
        fault("1+1234567x", 22);
    }

    private static void faultWithoutPlates() {
        Check.promise(23);
        HullKeepers x = new HullKeepers();
        TextsTest.write(x, 3, "t/s+y");
        Check.due("no plate is needed", x.fault(3), NONE);
        TextsTest.write(x, 3, "1");
        Check.due("no plate is needed", x.fault(3), 51);
        Check.due("asked again", x.fault(3), 51);
    }

    /** 65536 * 65536 * 65536 * 32768 is one more than the largest long: the least. */
    private static void longsWrap() {
        Check.promise(24);
        String least = "65536*65536*65536*32768";
        tells(least, Long.MIN_VALUE);
        tells("-(" + least + ")", Long.MIN_VALUE);
        tells(least + "-1", Long.MAX_VALUE);
        tells("-1+" + least, Long.MAX_VALUE);
        tells(least + "/-1", Long.MIN_VALUE);
        tells(least + "/1", Long.MIN_VALUE);
        tells(least + "*2", 0);
        tells(least + "*-1", Long.MIN_VALUE);
        tells(least + "<0", 1);
        tells(least + "-1>0", 1);
        tells("!(" + least + ")", 0);
        tells(least + "/2", Long.MIN_VALUE / 2);
        tells("999999*999999*999999*999999", 999999L * 999999 * 999999 * 999999);
        tells(least + "=-(" + least + ")", 1);
    }

    private static void dividedTowardZero() {
        Check.promise(24);
        tells("7/2", 3);
        tells("-7/2", -3);
        tells("7/-2", -3);
        tells("-7/-2", 3);
        tells("(0-1)/2", 0);
        tells("1/999999", 0);
        tells("0/5", 0);
        tells("5/0", 0);
        tells("-5/0", 0);
        tells("0/0", 0);
        tells("5/(t-t)+1", 1);
        tells("5/-0", 0);
        tells("5/0*7", 0);
        tells("5/!7", 0);
        tells("7/2*2", 6);
        tells("2*7/2", 7);
    }

    private static void truthsAreOneAndZero() {
        Check.promise(24);
        tells("7|9", 1);
        tells("0|9", 1);
        tells("9|0", 1);
        tells("0|0", 0);
        tells("7&9", 1);
        tells("0&9", 0);
        tells("9&0", 0);
        tells("-1&-1", 1);
        tells("7", 7);
        tells("(7)", 7);
        tells("!7", 0);
        tells("!-7", 0);
        tells("!0", 1);
        tells("!!7", 1);
        tells("1<1", 0);
        tells("0<1", 1);
        tells("1>1", 0);
        tells("2>1", 1);
        tells("-2>-1", 0);
        tells("1=1", 1);
        tells("1=0", 0);
        tells("0|5/0", 0);
        tells("1|5/0", 1);
        tells("0&5/0", 0);
    }

    private static void lettersAtTheirEnds() {
        Check.promise(24);
        HullKeepers x = new HullKeepers();
        x.ship(1000, 500, 1, 10000);
        x.plate(0, 0, 1, 1, -6000);
        x.plate(0, 2, 5000, 1000, 0);
        letters(x, 0, 1, 6000, 0, -1, 0, 1);
        letters(x, 1, 5000, 0, 2, -1, 0, 1000);
        x.lay(0);
        for (int i = 0; i < 9; i++) {
            x.months(60);
        }
        x.months(59);
        letters(x, 0, 0, 6599, 0, 1000, 1, 1);
        letters(x, 1, 5000 - 2 * 599, 599, 2, 1000, 1, 1000);
        x.replace(1, 5000);
        letters(x, 1, 5000, 0, 2, 0, 0, 1000);
        letters(x, 0, 0, 6599, 0, 0, 1, 1);
        x.replace(0, 1);
        letters(x, 0, 1, 0, 0, 0, 0, 1);
    }

    private static void letters(HullKeepers x, int plate, int... due) {
        for (int i = 0; i < 6; i++) {
            String letter = "tyzsfm".substring(i, i + 1);
            x.erase(1);
            TextsTest.write(x, 1, letter);
            Check.due(letter + " of plate " + plate, x.tells(1, plate), due[i]);
        }
    }

    private static void charterOfEachText() {
        Check.promise(25);
        HullKeepers x = withText("1");
        int had = NONE;
        for (int text = -1; text < 4; text++) {
            Check.due("what it had", x.charter(0, text), had);
            Check.due("what it has", x.about(0, 6), text);
            Check.due("a text that is none", x.charter(0, 4), -10);
            Check.due("a text that is none", x.charter(0, -2), -10);
            Check.due("a ship that is none", x.charter(1, 0), -10);
            Check.due("what it has", x.about(0, 6), text);
            had = text;
        }
        HullKeepers y = Houses.withSunken();
        Check.due("of a ship that sank", y.charter(0, 2), NONE);
        Check.due("of a ship that sank", y.charter(0, NONE), 2);
    }

    private static void unlikeOfNoneAndOfAll() {
        Check.promise(26);
        HullKeepers x = new HullKeepers();
        x.ship(1000, 500, 1, 0);
        TextsTest.write(x, 0, "1");
        TextsTest.write(x, 1, "0");
        TextsTest.write(x, 2, "-5");
        Check.due("of no plates: none", x.unlike(0, 0, 1, NONE), 0);
        Check.due("of no plates: not so many", x.unlike(0, 0, 1, 0), NONE);
        for (int i = 0; i < 96; i++) {
            x.plate(0, DRY, 5, 5, 0);
        }
        Check.due("all 96", x.unlike(0, 0, 1, NONE), 96);
        for (int i = 0; i < 96; i++) {
            Check.due("the i-th", x.unlike(0, 1, 0, i), i);
        }
        Check.due("not so many", x.unlike(0, 0, 1, 96), NONE);
        Check.due("not so many", x.unlike(0, 0, 1, Integer.MAX_VALUE), NONE);
        Check.due("a number that is none", x.unlike(0, 0, 1, -2), BAD);
        Check.due("two truths", x.unlike(0, 0, 2, NONE), 0);
        Check.due("two truths: not so many", x.unlike(0, 0, 2, 0), NONE);
        Check.due("one text twice", x.unlike(0, 0, 0, NONE), 0);
    }

    private static void unlikeByFaults() {
        Check.promise(26);
        HullKeepers x = withText("1");
        TextsTest.write(x, 1, "0");
        TextsTest.write(x, 2, "1+");
        Check.due("a fault and a truth", x.unlike(0, 0, 2, NONE), 1);
        Check.due("a fault and a truth: plate 0", x.unlike(0, 0, 2, 0), 0);
        Check.due("a truth and a fault", x.unlike(0, 2, 0, NONE), 1);
        Check.due("a fault and none", x.unlike(0, 1, 2, NONE), 0);
        Check.due("two faults", x.unlike(0, 2, 3, NONE), 0);
        Check.due("an empty text and a truth", x.unlike(0, 3, 0, NONE), 1);
        TextsTest.write(x, 2, "0");
        Check.due("the text as it stands", x.unlike(0, 0, 2, NONE), 0);
    }
}
