import java.util.Arrays;
import java.util.HashMap;
import java.util.Map;

/**
 * The sayings of up to 24 numbers, found otherwise than the class does: each saying is one long, how many numbers
 * it has, then its price, then the use of NUMBER 1, of 2, .. by two bits each (AND, LESS, HALF, not used), so that
 * the least long is the best saying. What a number in a use adds to that long does not depend on the others.
 */
final class BigSayings {
    private static final int MOST_SUM = 300;
    private static final long NEVER = Long.MAX_VALUE / 2;

    private final int numbers;
    private final int[] cost;
    private final int[] law;
    private final Map<Long, long[]> known = new HashMap<>();

    BigSayings(int numbers, int[] cost, int[] law) {
        this.numbers = numbers;
        this.cost = cost;
        this.law = law;
    }

    Model.Saying best(int may, int amount, int kind) {
        long[] least = known.computeIfAbsent((long) may << 2 | kind, key -> leastOf(may, kind));
        return least[MOST_SUM + amount] >= NEVER ? null : decoded(least[MOST_SUM + amount]);
    }

    int ways(int set, int amount, int kind) {
        if (kind == 0 && Integer.bitCount(set) != 1) {
            return 0;
        }
        Map<Integer, Integer> ways = new HashMap<>(Map.of(0, 1));
        for (int x = 1; x <= numbers; x++) {
            if ((set >> x - 1 & 1) == 1) {
                Map<Integer, Integer> more = new HashMap<>();
                for (Map.Entry<Integer, Integer> way : ways.entrySet()) {
                    for (int use = 1; use <= Math.max(1, kind); use++) {
                        if (use != 3 || x % 2 == 0) {
                            more.merge(way.getKey() + worth(x, use), way.getValue(), Integer::sum);
                        }
                    }
                }
                ways = more;
            }
        }
        return ways.getOrDefault(amount, 0);
    }

    private long[] leastOf(int may, int kind) {
        long[] least = new long[2 * MOST_SUM + 1];
        Arrays.fill(least, NEVER);
        least[MOST_SUM] = 0;
        for (int x = 1; x <= numbers; x++) {
            long[] more = new long[2 * MOST_SUM + 1];
            for (int sum = 0; sum <= 2 * MOST_SUM; sum++) {
                more[sum] = least[sum] >= NEVER ? NEVER : least[sum] + code(x, 4);
            }
            for (int use = 1; use <= Math.max(1, kind) && (may >> x - 1 & 1) == 1; use++) {
                for (int sum = 0; sum <= 2 * MOST_SUM && (use != 3 || x % 2 == 0); sum++) {
                    long whole = least[sum] + code(x, use);
                    if (least[sum] < NEVER && fits(whole, kind)) {
                        more[sum + worth(x, use)] = Math.min(more[sum + worth(x, use)], whole);
                    }
                }
            }
            least = more;
        }
        return least;
    }

    private static boolean fits(long whole, int kind) {
        return kind != 0 || many(whole) <= 1;
    }

    private static int many(long whole) {
        return (int) (whole >> 57);
    }

    private static int worth(int x, int use) {
        return new int[] {0, x, -x, x / 2}[use];
    }

    private long code(int x, int use) {
        long placed = (long) (use - 1) << 2 * (24 - x);
        return use == 4 ? placed : placed + (1L << 57) + ((long) price(x, use) << 48);
    }

    private int price(int x, int use) {
        return cost[x] + (use == 2 ? law[1] : use == 3 ? law[2] : 0);
    }

    private Model.Saying decoded(long whole) {
        Model.Saying saying = new Model.Saying();
        saying.uses = new int[numbers + 1];
        for (int x = 1; x <= numbers; x++) {
            saying.uses[x] = 1 + (int) (whole >> 2 * (24 - x) & 3);
            saying.set |= saying.uses[x] == 4 ? 0 : 1 << x - 1;
        }
        saying.price = (int) (whole >> 48 & 511);
        return saying;
    }
}
