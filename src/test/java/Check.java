/** Counts the answers that are due and those that are not, for each promise. */
final class Check {
    static final int PROMISES = 43;
    private static final int[] right = new int[PROMISES + 1];
    private static final int[] wrong = new int[PROMISES + 1];
    private static int promise = 0;

    private Check() {
    }

    /** What follows is about this promise (0: about none alone). */
    static void promise(int number) {
        promise = number;
    }

    static void due(String what, long got, long want) {
        if (got == want) {
            right[promise]++;
            return;
        }
        wrong[promise]++;
        if (wrong[promise] <= 20) {
            System.out.println("promise " + promise + ": " + what + " answered " + got + ", due is " + want);
        }
    }

    static void holds(String what, boolean holds) {
        due(what, holds ? 1 : 0, 1);
    }

    /** A promise without any check counts as broken. */
    static boolean sumUp() {
        int checks = 0;
        int bad = 0;
        for (int i = 0; i <= PROMISES; i++) {
            checks += right[i] + wrong[i];
            bad += wrong[i];
            if (right[i] + wrong[i] == 0) {
                System.out.println("promise " + i + ": no test");
                bad++;
            }
        }
        System.out.println("checks of own tests: " + checks + ", not as due: " + bad);
        return bad == 0;
    }
}
