import java.lang.reflect.Method;
import java.util.ArrayList;
import java.util.Arrays;
import java.util.HashMap;
import java.util.List;
import java.util.Map;
import java.util.Random;

/** Long runs of mixed calls on the class and on PlainHouse: each answer is the same, and so is all that is told. */
final class PlainRunsTest {
    private static final int RUNS = 120, CALLS = 512;
    private static final int[] ODD = {Integer.MIN_VALUE, Integer.MAX_VALUE, -1, -2};

    /** In the document's order: how often a call comes, and least and most of each number that it takes. */
    private static final String[] CALLS_TOLD = {
        "ship 4 10 60 30 200 1 900 0 120", "plate 14 0 3 0 2 250 420 1 60 -90 0", "lay 4 0 3", "wear 1 0 2 0 6",
        "bound 1 200 400", "wire 2 0 300", "crowd 3 0 3 0 900", "storm 4 0 60 0 900", "months 7 1 4", "about 9 0 3 0 6",
        "plateAt 5 0 15 0 5", "replace 8 0 15 200 420", "move 7 0 15 0 3", "reading 16 0 15 0 15 0 3 250 450 0 40",
        "bias 2 0 3 -20 20", "right 1 0 3 -20 20 0 60", "guess 8 0 15 0 60 0 60", "due 8 0 15 0 60", "first 5 0 3 0 60",
        "write 2 0 3 32 127", "erase 1 0 3", "fault 3 0 3", "tells 8 0 3 0 15", "charter 3 0 3 -1 3",
        "unlike 6 0 3 0 3 0 3 -1 3", "hull 4 0 10 1 4 0 300", "docks 2 0 3 0 300", "plan 8 -1 11", "clear 1",
        "test 4 0 4095 0 1", "drain 1", "leaks 3 0 1", "wave 5 0 89 0 100", "tow 4 1 8 30 100 0 89", "hand 3 0 31 1 60",
        "work 3 0 4 1 100 1 100", "done 3 0 1", "worst 3 1 900 1 8 0 1", "image 2 0 1", "from 1 0 1", "count 3 0 8",
        "digest 2"};

    private static final Map<String, Method> OF_CLASS = methods(HullKeepers.class);
    private static final Map<String, Method> OF_PLAIN = methods(PlainHouse.class);

    private PlainRunsTest() {
    }

    static void run() throws ReflectiveOperationException {
        List<String> often = new ArrayList<>();
        for (String told : CALLS_TOLD) {
            for (int i = 0; i < Integer.parseInt(told.split(" ")[1]); i++) {
                often.add(told);
            }
        }
        for (int seed = 0; seed < RUNS; seed++) {
            oneRun(new Random(seed), seed, often);
        }
    }

    private static Map<String, Method> methods(Class<?> of) {
        Map<String, Method> named = new HashMap<>();
        for (Method m : of.getDeclaredMethods()) {
            if (java.lang.reflect.Modifier.isPublic(m.getModifiers())) {
                named.put(m.getName(), m);
            }
        }
        return named;
    }

    private static void oneRun(Random random, int seed, List<String> often) throws ReflectiveOperationException {
        HullKeepers x = new HullKeepers();
        PlainHouse plain = new PlainHouse();
        int odds = seed % 3 * 4;
        for (int call = 1; call < CALLS; call++) {
            if (random.nextInt(25) == 0) {
                String text = text(random);
                int number = random.nextInt(4);
                boolean isAnew = random.nextInt(6) > 0;
                for (int i = isAnew ? -1 : 0; i < text.length() && call < CALLS; i++, call++) {
                    int[] a = i < 0 ? new int[] {number} : new int[] {number, text.charAt(i)};
                    same(seed, x, plain, i < 0 ? "erase" : "write", a);
                }
                continue;
            }
            // what there is comes ahead of what is asked of it
            String told = often.get(random.nextInt(call < 40 ? often.size() / 7 : often.size()));
            same(seed, x, plain, told.split(" ")[0], numbers(random, told.split(" "), odds));
        }
        same(seed, x, plain, "digest", new int[0]);
    }

    private static int[] numbers(Random random, String[] told, int odds) {
        int[] a = new int[(told.length - 2) / 2];
        for (int i = 0; i < a.length; i++) {
            int least = Integer.parseInt(told[2 + 2 * i]);
            int most = Integer.parseInt(told[3 + 2 * i]);
            a[i] = least + random.nextInt(most - least + 1);
            if (random.nextInt(100) < odds) {
                a[i] = random.nextBoolean() ? ODD[random.nextInt(ODD.length)] : random.nextInt(700);
            }
        }
        return a;
    }

    /** Mostly one without a fault. */
    private static String text(Random random) {
        String[] parts = {"t", "y", "z", "s", "f", "m", "300", "(t-9)", "!f", "-z", "( s<700|f )", "2*m", "t/ 3", "7"};
        String[] between = {"<", ">", "=", "+", "-", "*", "/", "&", "|", " & ", "=!"};
        StringBuilder b = new StringBuilder(parts[random.nextInt(parts.length)]);
        for (int i = random.nextInt(3); i > 0; i--) {
            b.append(between[random.nextInt(between.length)]).append(parts[random.nextInt(parts.length)]);
        }
        if (random.nextInt(8) == 0) {
            b.append("&<(t1 ".charAt(random.nextInt(6)));
        }
        return b.toString();
    }

    private static void same(int seed, HullKeepers x, PlainHouse plain, String name, int[] a)
            throws ReflectiveOperationException {
        Check.promise(promise(name));
        Method method = OF_CLASS.get(name);
        Object[] given = new Object[a.length];
        for (int i = 0; i < a.length; i++) {
            given[i] = method.getParameterTypes()[i] == boolean.class ? (Object) (a[i] == 1) : (Object) a[i];
        }
        long got = ((Number) method.invoke(x, given)).longValue();
        long due = ((Number) OF_PLAIN.get(name).invoke(plain, given)).longValue();
        Check.due("run " + seed + ": " + name + Arrays.toString(a), got, due);
    }

    /** Promise 1 is the new object, the calls follow in their order. */
    private static int promise(String name) {
        for (int i = 0; i < CALLS_TOLD.length; i++) {
            if (CALLS_TOLD[i].startsWith(name + " ")) {
                return i + 2;
            }
        }
        return 0;
    }
}
