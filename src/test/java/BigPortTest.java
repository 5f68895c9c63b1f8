import java.util.Random;

/**
 * The best sayings of all 24 numbers: those of four numbers at most are written out, and the best ones that
 * the class answers must be among them, or of more. No call ever throws, whatever it is given.
 */
public final class BigPortTest {
    private static final Check CHECK = new Check();

    private static final int[] bestWeight = new int[100];
    private static final int[][] bestBits = new int[100][4];
    private static final int[] cost = new int[25];
    private static int lessCost;
    private static int halfCost;
    private static int kind;

    public static void main(String[] args) {
        Random random = new Random(24);
        for (int k = 0; k < 24; k++) {
            compare(drawnText(random, k), random.nextInt(6), random.nextInt(7), 5);
        }
        anyArguments(random);
        CHECK.end();
    }

    private static String drawnText(Random random, int k) {
        StringBuilder text = new StringBuilder("n24;");
        for (int x = 1; x <= 24; x++) {
            cost[x] = 1;
        }
        for (int i = 0; i < 6; i++) {
            text.append('p').append(1 + random.nextInt(99)).append(';');
        }
        for (int c = k % 5 * 3; c > 0; c--) {
            int x = 1 + random.nextInt(24);
            cost[x] = random.nextInt(10);
            text.append('c').append(x).append(',').append(cost[x]).append(';');
        }
        kind = 1 + k % 3;
        lessCost = random.nextInt(3);
        halfCost = random.nextInt(3);
        return text.append('k').append(kind).append(',').append(lessCost).append(',').append(halfCost)
                .append(";h").append(1 + random.nextInt(24)).append(",0;").toString();
    }

    private static TakenNumbers made(String text, int births, int spoken) {
        TakenNumbers port = Given.laid(text);
        for (int k = 0; k < births; k++) {
            port.born();
        }
        for (int i = 0; i < spoken; i++) {
            port.speak(i);
        }
        return port;
    }

    private static void compare(String text, int births, int spoken, int i) {
        TakenNumbers port = made(text, births, spoken);
        for (int amount = 0; amount < 100; amount++) {
            bestWeight[amount] = Integer.MAX_VALUE;
        }
        writeOut(port.person(i, 2), 1, 0, 0, new int[4]);
        for (int amount = 1; amount < 100; amount++) {
            port = amount % 33 == 0 ? made(text, births, spoken) : port;
            int many = port.best(i, amount, 0);
            if (bestWeight[amount] == Integer.MAX_VALUE) {
                CHECK.that(amount + " is of more than four, or none", many > 4 || many == TakenNumbers.NONE);
                continue;
            }
            CHECK.due("weight of " + amount, many * 1000 + port.best(i, amount, 1), bestWeight[amount]);
            for (int use = 1; use <= 3; use++) {
                CHECK.due("use " + use + " for " + amount, port.best(i, amount, use + 1), bestBits[amount][use]);
            }
        }
    }

    /** In the document's order, so that the first of several is written out first. */
    private static void writeOut(int may, int x, int sum, int weight, int[] bits) {
        if (x > 24 || weight >= 4000) {
            if (sum > 0 && sum < 100 && weight < bestWeight[sum]) {
                bestWeight[sum] = weight;
                bestBits[sum] = bits.clone();
            }
            return;
        }
        int bit = 1 << x - 1;
        for (int use = 1; use <= kind && (may & bit) != 0; use++) {
            if (use != 3 || x % 2 == 0) {
                int counted = use == 1 ? x : use == 2 ? -x : x / 2;
                int more = 1000 + cost[x] + (use == 2 ? lessCost : use == 3 ? halfCost : 0);
                bits[use] |= bit;
                writeOut(may, x + 1, sum + counted, weight + more, bits);
                bits[use] &= ~bit;
            }
        }
        writeOut(may, x + 1, sum, weight, bits);
    }

    private static void anyArguments(Random random) {
        int[] odd = {Integer.MIN_VALUE, Integer.MIN_VALUE + 1, -100, -5, -2, -1, 0, 1, 2, 3, 5, 6, 7, 24, 25, 32, 99, 100,
            1 << 23, 1 << 24, 1 << 30, Integer.MAX_VALUE};
        for (int k = 0; k < 40; k++) {
            String text = "n" + (1 + random.nextInt(24)) + ";p9;p" + (1 + random.nextInt(99)) + ";k" + k % 4 + ",1,1;";
            TakenNumbers port = Given.laid(text);
            for (int a : odd) {
                port = a == 0 ? Given.laid(text) : port;
                int b = odd[random.nextInt(odd.length)];
                int c = odd[random.nextInt(odd.length)];
                int before = port.count(0) + port.count(1);
                int[] answers = {port.write(a), port.number(a, b), port.person(a, b), port.law(a), port.tell(a, b), port.words(a),
                    port.say(a), port.speak(a), port.lend(a, b), port.born(), port.best(a, b, c), port.freed(a), port.order(a),
                    port.deny(a, b), port.value(a), port.ways(a, b, c), port.lowest(a), port.enter(a), port.book(a),
                    port.corner(a, b), port.year(a, b, c), port.keep(), port.count(a), port.undo(), port.stuck(), port.guard()};
                for (int answer : answers) {
                    CHECK.that("no answer is below NONE", answer >= TakenNumbers.NONE);
                }
                CHECK.due("the port stays", port.count(0) + port.count(1), before);
            }
        }
    }
}
