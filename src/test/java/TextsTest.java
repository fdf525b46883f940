import java.util.Random;

/** Promises 21 to 26: texts, their faults, what they tell, and charters. */
final class TextsTest {
    private static final long BAD_TELLING = -2000000000000000000L, NO_TELLING = -3000000000000000000L;

    private TextsTest() {
    }

    static void run() {
        writing();
        faults();
        telling();
        charters();
        unlike();
        randomFaults();
        randomTellings();
    }

    static void write(HullKeepers x, int text, String signs) {
        for (int i = 0; i < signs.length(); i++) {
            x.write(text, signs.charAt(i));
        }
    }

    private static void put(HullKeepers x, int text, String signs) {
        x.erase(text);
        write(x, text, signs);
    }

    private static void writing() {
        Check.promise(21);
        HullKeepers x = new HullKeepers();
        Check.due("bad", x.write(-1, 65), HullKeepers.BAD);
        Check.due("bad", x.write(4, 65), HullKeepers.BAD);
        Check.due("bad", x.write(0, -1), HullKeepers.BAD);
        Check.due("bad", x.write(0, 128), HullKeepers.BAD);
        for (int i = 1; i <= 60; i++) {
            Check.due("write", x.write(3, i == 1 ? 0 : 127), i);
        }
        Check.due("full", x.write(3, 65), HullKeepers.FULL);
        Check.due("bad ahead of full", x.write(3, 128), HullKeepers.BAD);
        Check.due("another", x.write(2, 65), 1);
        Check.promise(22);
        Check.due("erase bad", x.erase(4), HullKeepers.BAD);
        Check.due("erase bad", x.erase(-1), HullKeepers.BAD);
        Check.due("erase", x.erase(3), 60);
        Check.due("erase", x.erase(3), 0);
        Check.due("the other stays", x.erase(2), 1);
        Check.due("write anew", x.write(3, 65), 1);
    }

    private static void fault(String text, int due) {
        HullKeepers x = new HullKeepers();
        write(x, 1, text);
        Check.due("fault of \"" + text + "\"", x.fault(1), due);
        Check.due("fault of another", x.fault(0), 1);
    }

    private static void faults() {
        Check.promise(23);
        HullKeepers x = new HullKeepers();
        Check.due("bad", x.fault(-1), HullKeepers.BAD);
        Check.due("bad", x.fault(4), HullKeepers.BAD);
        String[] fine = {"t", " t ", "1<2", "(1<2)<3", "1<2&2<3|4", "!!--t", "-1--1", "999999", "((((((((1))))))))",
            "(1)*((((((((2))))))))", "1 + 2", "t*y/z-s+f*m=0", "( t )", "! ( 1 | 0 ) = - 1"};
        for (String text : fine) {
            fault(text, HullKeepers.NONE);
        }
        fault("", 1);
        fault("   ", 31);
        fault("t+", 21);
        fault("t+ ", 31);
        fault("(t", 21);
        fault("(t ", 31);
        fault("t)", 11);
        fault("()", 11);
        fault("tt", 11);
        fault("t t", 21);
        fault("1 2", 21);
        fault("1t", 11);
        fault("t1", 11);
        fault("1<2<3", 31);
        fault("1<2=3", 31);
        fault("1==2", 21);
        fault("x", 1);
        fault("T", 1);
        fault("+1", 1);
        fault("1*/2", 21);
        fault("1!", 11);
        fault("1&&2", 21);
        fault("1(2)", 11);
        fault("\t1", 1);
        fault("1234567", 2);
        fault("1+1234567", 22);
        fault("1+ 12345678 x", 32);
        fault("0000001", 2);
        fault("(((((((((1)))))))))", 83);
        fault("((((((((1))))))))+(((((((((", 263);
        fault("(((((((((x", 83);
        fault("t(((((((((", 11);
        String deep = "!".repeat(59);
        fault(deep + "t", HullKeepers.NONE);
        fault(deep, 591);
    }

    private static HullKeepers withPlate() {
        HullKeepers x = new HullKeepers();
        x.ship(100, 500, 1, 10000);
        x.plate(0, 1, 700, 60, -20);
        x.plate(0, 2, 800, 40, 0);
        x.lay(0);
        x.replace(1, 800);
        x.months(5);
        return x;
    }

    private static void tells(HullKeepers x, String text, int plate, long due) {
        put(x, 2, text);
        Check.due("\"" + text + "\" of plate " + plate, x.tells(2, plate), due);
    }

    private static void telling() {
        Check.promise(24);
        HullKeepers x = withPlate();
        put(x, 2, "1");
        Check.due("bad", x.tells(-1, 0), BAD_TELLING);
        Check.due("bad", x.tells(4, 0), BAD_TELLING);
        Check.due("bad", x.tells(2, -1), BAD_TELLING);
        Check.due("bad", x.tells(2, 2), BAD_TELLING);
        Check.due("bad ahead of no", x.tells(0, 2), BAD_TELLING);
        Check.due("no", x.tells(0, 0), NO_TELLING);
        tells(withPlate(), "1+", 0, NO_TELLING);
        tells(withPlate(), "t", 0, 680);
        tells(withPlate(), "y", 0, 25);
        tells(withPlate(), "z", 0, 1);
        tells(withPlate(), "s", 0, 600);
        tells(withPlate(), "f", 0, 1);
        tells(withPlate(), "m", 0, 60);
        tells(withPlate(), "t", 1, 790);
        tells(withPlate(), "y", 1, 5);
        tells(withPlate(), "z", 1, 2);
        tells(withPlate(), "s", 1, 600);
        tells(withPlate(), "f", 1, 0);
        tells(withPlate(), "2+3*4", 0, 14);
        tells(withPlate(), "(2+3)*4", 0, 20);
        tells(withPlate(), "10-4-3", 0, 3);
        tells(withPlate(), "100/7/2", 0, 7);
        tells(withPlate(), "-7/2", 0, -3);
        tells(withPlate(), "7/-2", 0, -3);
        tells(withPlate(), "7/0", 0, 0);
        tells(withPlate(), "7/(t-t)*5", 0, 0);
        tells(withPlate(), "1<2", 0, 1);
        tells(withPlate(), "2<2", 0, 0);
        tells(withPlate(), "3>2", 0, 1);
        tells(withPlate(), "2>2", 0, 0);
        tells(withPlate(), "2=2", 0, 1);
        tells(withPlate(), "2=3", 0, 0);
        tells(withPlate(), "5|0", 0, 1);
        tells(withPlate(), "0|0", 0, 0);
        tells(withPlate(), "5&-6", 0, 1);
        tells(withPlate(), "5&0", 0, 0);
        tells(withPlate(), "1|0&0", 0, 1);
        tells(withPlate(), "(1|0)&0", 0, 0);
        tells(withPlate(), "1+1=2", 0, 1);
        tells(withPlate(), "!5", 0, 0);
        tells(withPlate(), "!0", 0, 1);
        tells(withPlate(), "!0+5", 0, 6);
        tells(withPlate(), "-!0", 0, -1);
        tells(withPlate(), "!-0", 0, 1);
        tells(withPlate(), "--5", 0, 5);
        tells(withPlate(), "- ! ! 5 * 3", 0, -3);
        long big = 1;
        for (int i = 0; i < 8; i++) {
            big *= 999999;
        }
        tells(withPlate(), "999999*999999*999999*999999*999999*999999*999999*999999", 0, big);
        HullKeepers notLaid = new HullKeepers();
        notLaid.ship(10, 10, 10, 10);
        notLaid.plate(0, 0, 1, 1, 0);
        tells(notLaid, "s", 0, -1);
    }

    private static void charters() {
        Check.promise(25);
        HullKeepers x = new HullKeepers();
        Check.due("bad", x.charter(0, 0), -10);
        x.ship(10, 10, 10, 10);
        Check.due("bad", x.charter(-1, 0), -10);
        Check.due("bad", x.charter(0, 4), -10);
        Check.due("bad", x.charter(0, -2), -10);
        Check.due("had none", x.charter(0, 3), HullKeepers.NONE);
        Check.due("had 3", x.charter(0, 0), 3);
        Check.due("had 0", x.charter(0, HullKeepers.NONE), 0);
        Check.due("had none", x.charter(0, HullKeepers.NONE), HullKeepers.NONE);
    }

    private static void unlike() {
        Check.promise(26);
        HullKeepers x = new HullKeepers();
        x.ship(1000, 100, 10, 10);
        x.ship(1000, 100, 10, 10);
        for (int i = 0; i < 8; i++) {
            x.plate(i % 2, 0, 100 + i, 1, 0);
        }
        Check.due("bad", x.unlike(2, 0, 1, 0), HullKeepers.BAD);
        Check.due("bad", x.unlike(-1, 0, 1, 0), HullKeepers.BAD);
        Check.due("bad", x.unlike(0, 4, 1, 0), HullKeepers.BAD);
        Check.due("bad", x.unlike(0, 0, -1, 0), HullKeepers.BAD);
        Check.due("bad", x.unlike(0, 0, 1, -2), HullKeepers.BAD);
        write(x, 0, "t>101");
        write(x, 1, "5*(t>105)");
        Check.due("how many", x.unlike(0, 0, 1, -1), 2);
        Check.due("the 0th", x.unlike(0, 0, 1, 0), 2);
        Check.due("the 1st", x.unlike(0, 0, 1, 1), 4);
        Check.due("not so many", x.unlike(0, 0, 1, 2), HullKeepers.NONE);
        Check.due("not so many", x.unlike(0, 0, 1, Integer.MAX_VALUE), HullKeepers.NONE);
        Check.due("how many", x.unlike(1, 1, 0, -1), 2);
        Check.due("one text", x.unlike(1, 0, 0, -1), 0);
        Check.due("a fault is no truth", x.unlike(0, 0, 2, -1), 3);
        write(x, 2, "1+");
        Check.due("a fault is no truth", x.unlike(0, 0, 2, -1), 3);
        Check.due("two faults are like", x.unlike(0, 3, 2, -1), 0);
    }

    /** What a scan over the signs says: where an operand or an operator must stand, with a stack of parentheses. */
    static int faultOf(String text) {
        boolean operand = true;
        boolean[] compared = new boolean[70];
        int open = 0;
        for (int i = 0; i < text.length(); i++) {
            char c = text.charAt(i);
            if (c == ' ') {
                continue;
            }
            if (operand) {
                if (Character.isDigit(c)) {
                    int end = i;
                    while (end < text.length() && Character.isDigit(text.charAt(end))) {
                        end++;
                    }
                    if (end - i > 6) {
                        return 10 * i + 2;
                    }
                    i = end - 1;
                    operand = false;
                } else if ("tyzsfm".indexOf(c) >= 0) {
                    operand = false;
                } else if (c == '(') {
                    if (open == 8) {
                        return 10 * i + 3;
                    }
                    open++;
                    compared[open] = false;
                } else if (c != '!' && c != '-') {
                    return 10 * i + 1;
                }
            } else if (c == ')' && open > 0) {
                open--;
            } else if ("+-*/".indexOf(c) >= 0) {
                operand = true;
            } else if ("<>=".indexOf(c) >= 0 && !compared[open]) {
                compared[open] = true;
                operand = true;
            } else if (c == '&' || c == '|') {
                compared[open] = false;
                operand = true;
            } else {
                return 10 * i + 1;
            }
        }
        return operand || open > 0 ? 10 * text.length() + 1 : HullKeepers.NONE;
    }

    private static void randomFaults() {
        Check.promise(23);
        Random random = new Random(23);
        String signs = "tyzsfm0123456789!-+*/<>=&|()  ((()))11xT";
        for (int run = 0; run < 20000; run++) {
            HullKeepers x = new HullKeepers();
            StringBuilder b = new StringBuilder();
            if (run % 2 == 0) {
                int n = random.nextInt(61);
                for (int i = 0; i < n; i++) {
                    b.append(signs.charAt(random.nextInt(signs.length())));
                }
            } else {
                grow(b, random, 6);
                b.setLength(Math.min(b.length(), 60));
                if (b.length() > 0 && run % 3 == 0) {
                    b.setCharAt(random.nextInt(b.length()), signs.charAt(random.nextInt(signs.length())));
                }
            }
            String text = b.toString();
            put(x, 0, text);
            Check.due("fault of \"" + text + "\"", x.fault(0), faultOf(text));
        }
    }

    private static final long[] LETTERS = new long[6];

    private static void blank(StringBuilder b, Random random) {
        if (random.nextInt(6) == 0) {
            b.append(' ');
        }
    }

    /** Writes a text and works it at once, each operation in parentheses or not as its rank asks. */
    private static long grow(StringBuilder b, Random random, int depth) {
        return level(b, random, depth, 0);
    }

    private static long level(StringBuilder b, Random random, int depth, int rank) {
        if (rank == 5) {
            return unit(b, random, depth);
        }
        long v = level(b, random, depth, rank + 1);
        int more = depth <= 0 ? 0 : random.nextInt(5) == 0 ? 1 + random.nextInt(2) : 0;
        if (rank == 2) {
            more = Math.min(more, 1);
        }
        String[] operators = {"|", "&", "<>=", "+-", "*/"};
        for (int i = 0; i < more; i++) {
            char operator = operators[rank].charAt(random.nextInt(operators[rank].length()));
            blank(b, random);
            b.append(operator);
            blank(b, random);
            long w = level(b, random, depth - 1, rank + 1);
            v = worked(operator, v, w);
        }
        return v;
    }

    static long worked(char operator, long v, long w) {
        switch (operator) {
            case '|': return v != 0 || w != 0 ? 1 : 0;
            case '&': return v != 0 && w != 0 ? 1 : 0;
            case '<': return v < w ? 1 : 0;
            case '>': return v > w ? 1 : 0;
            case '=': return v == w ? 1 : 0;
            case '+': return v + w;
            case '-': return v - w;
            case '*': return v * w;
            default: return w == 0 ? 0 : v / w;
        }
    }

    private static long unit(StringBuilder b, Random random, int depth) {
        blank(b, random);
        int kind = random.nextInt(depth <= 0 ? 2 : 6);
        if (kind == 0 || kind == 2) {
            int letter = random.nextInt(6);
            b.append("tyzsfm".charAt(letter));
            return LETTERS[letter];
        }
        if (kind == 1) {
            int number = random.nextInt(random.nextBoolean() ? 4 : 1000000);
            b.append(number);
            return number;
        }
        if (kind == 3) {
            b.append('!');
            return unit(b, random, depth - 1) == 0 ? 1 : 0;
        }
        if (kind == 4) {
            b.append('-');
            return -unit(b, random, depth - 1);
        }
        b.append('(');
        long v = grow(b, random, depth - 1);
        blank(b, random);
        b.append(')');
        return v;
    }

    private static void randomTellings() {
        Check.promise(24);
        Random random = new Random(24);
        int told = 0;
        for (int run = 0; run < 40000; run++) {
            HullKeepers x = withPlate();
            int plate = random.nextInt(2);
            LETTERS[0] = x.plateAt(plate, 2);
            LETTERS[1] = 5 - x.plateAt(plate, 4);
            LETTERS[2] = x.plateAt(plate, 1);
            LETTERS[3] = x.about(0, 4);
            LETTERS[4] = x.plateAt(plate, 5);
            LETTERS[5] = x.plateAt(plate, 3);
            StringBuilder b = new StringBuilder();
            long due = grow(b, random, 5);
            if (b.length() <= 60) {
                tells(x, b.toString(), plate, due);
                told++;
            }
        }
        Check.holds("enough texts were told", told > 10000);
    }
}
