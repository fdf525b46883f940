import java.util.Arrays;
import java.util.HashMap;
import java.util.List;
import java.util.Map;

/** The plan by the document's words: of all ways from a year on the best one, each state worked once. */
final class PlainPlan {
    private static final int YEARS = 10;
    private static final Map<String, PlainPlan> PLANS = new HashMap<>();

    /** What can come of a state: years, dockings, then the sets of the years that are left. */
    private final Map<String, int[]> bests = new HashMap<>();
    private final int[] first, gains, coins;
    private final int docks, income;

    private PlainPlan(List<int[]> hulls, int docks, int income) {
        this.docks = docks;
        this.income = income;
        first = new int[hulls.size()];
        gains = new int[hulls.size()];
        coins = new int[hulls.size()];
        for (int i = 0; i < first.length; i++) {
            first[i] = hulls.get(i)[0];
            gains[i] = hulls.get(i)[1];
            coins[i] = hulls.get(i)[2];
        }
    }

    static PlainPlan of(List<int[]> hulls, int docks, int income) {
        StringBuilder key = new StringBuilder(docks + "," + income);
        for (int[] hull : hulls) {
            key.append(Arrays.toString(hull));
        }
        return PLANS.computeIfAbsent(key.toString(), k -> new PlainPlan(hulls, docks, income));
    }

    int at(int what) {
        int[] best = best(0, first, 0);
        if (what == -1) {
            return best[0];
        }
        return what == 10 ? letGo(best) : what == 11 ? best[1] : best[2 + what];
    }

    private int letGo(int[] best) {
        int gone = 0;
        for (int i = 0; i < first.length; i++) {
            int till = first[i];
            for (int year = 0; year < YEARS; year++) {
                till += (best[2 + year] >> i & 1) * gains[i];
            }
            gone |= till > YEARS - 1 ? 0 : 1 << i;
        }
        return gone;
    }

    private int[] best(int year, int[] till, int left) {
        if (year == YEARS) {
            return new int[2 + YEARS];
        }
        String state = year + "," + left + Arrays.toString(till);
        if (bests.containsKey(state)) {
            return bests.get(state);
        }
        int[] best = null;
        for (int set = 0; set < 1 << till.length; set++) {
            int[] way = way(year, till, left + income, set);
            if (way != null && (best == null || Arrays.compare(signed(way), signed(best)) < 0)) {
                best = way;
            }
        }
        bests.put(state, best);
        return best;
    }

    /** Years count the other way around. */
    private static int[] signed(int[] way) {
        int[] signed = way.clone();
        signed[0] = -way[0];
        return signed;
    }

    private int[] way(int year, int[] till, int coin, int set) {
        int[] later = till.clone();
        int left = coin;
        int floating = 0;
        for (int i = 0; i < till.length; i++) {
            floating += till[i] > year ? 1 : 0;
            if ((set >> i & 1) == 1) {
                if (till[i] <= year) {
                    return null;
                }
                later[i] += gains[i];
                left -= coins[i];
            }
        }
        if (left < 0 || Integer.bitCount(set) > docks) {
            return null;
        }
        int[] way = best(year + 1, later, left).clone();
        way[0] += floating;
        way[1] += Integer.bitCount(set);
        way[2 + year] = set;
        return way;
    }
}
