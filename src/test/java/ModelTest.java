import java.util.Random;

/**
 * Long runs of drawn calls, each asked of the class and of the model, which must answer alike. Each fifth run is of
 * ports of up to 24 numbers.
 */
public final class ModelTest {
    private static final Check CHECK = new Check();

    /** An object is for 512 calls: there is room left for a text that is drawn, written and laid as the last one. */
    private static final int MOST_CALLS = 512 - 180;

    private static Random random;
    private static TakenNumbers real;
    private static Model model;
    private static String run;
    private static int calls;
    private static boolean big;

    public static void main(String[] args) {
        int runs = args.length > 0 ? Integer.parseInt(args[0]) : 160;
        int first = args.length > 1 ? Integer.parseInt(args[1]) : 0;
        for (int seed = first; seed < first + runs; seed++) {
            random = new Random(seed);
            real = new TakenNumbers();
            model = new Model();
            run = "run " + seed + ": ";
            calls = 0;
            big = seed % 5 == 1;
            if (seed % 4 != 0) {
                layDrawn();
            }
            for (int k = 0; k < 400 && calls < MOST_CALLS; k++) {
                call();
            }
        }
        CHECK.end();
    }

    private static int below(int bound) {
        return random.nextInt(bound);
    }

    private static void due(String call, int got, int want) {
        calls++;
        CHECK.due(run + call, got, want);
    }

    private static void layDrawn() {
        due("wipe()", real.wipe(), model.wipe());
        writeAll(drawnText());
        due("fault()", real.fault(), model.fault());
        due("lay()", real.lay(), model.lay());
    }

    private static void writeAll(String text) {
        run = run.length() > 400 ? run.substring(0, 400) : run + text + " ";
        for (char letter : text.toCharArray()) {
            due("write", real.write(letter), model.write(letter));
        }
    }

    private static String drawnText() {
        StringBuilder text = new StringBuilder();
        int n = big ? 10 + below(15) : 1 + below(below(8) == 0 ? 9 : 7);
        text.append('n').append(n).append(';');
        int persons = big ? 4 + below(3) : 1 + below(6);
        for (int i = 0; i < persons; i++) {
            text.append('p').append(1 + below(big ? 99 : below(4) == 0 ? 30 : n + 3)).append(';');
        }
        for (int k = below(8); k > 0; k--) {
            text.append('c').append(1 + below(n)).append(',').append(below(10)).append(';');
        }
        for (int k = below(5); k > 0; k--) {
            text.append('h').append(1 + below(n)).append(',').append(below(persons)).append(';');
        }
        if (below(6) != 0) {
            text.append('k').append(below(4)).append(',').append(below(10)).append(',').append(below(10)).append(';');
        }
        if (below(12) == 0) {
            text.setCharAt(below(text.length()), "nchpk;,0129 x".charAt(below(13)));
        }
        return text.toString();
    }

    /** Mostly as told, now and then just beyond. */
    private static int drawn(int low, int high) {
        return below(12) == 0 ? low - 1 + below(high - low + 3) : low + below(high - low + 1);
    }

    private static int drawnNumber() {
        return drawn(1, model.count(0));
    }

    private static int drawnPerson() {
        return drawn(0, model.count(1) - 1);
    }

    /** Of many numbers, sets of a few, as rows of a book are. */
    private static int drawnSet() {
        if (big && below(4) != 0) {
            return 1 << below(model.count(0)) | 1 << below(model.count(0)) | 1 << below(model.count(0));
        }
        return below(20) == 0 ? below(2) - 1 : below(1 << model.count(0)) + (below(20) == 0 ? 1 << 24 : 0);
    }

    private static void call() {
        switch (below(9)) {
            case 0: portCall(); break;
            case 1: case 2: wordCall(); break;
            case 3: case 4: case 5: dayCall(); break;
            case 6: case 7: stuckCall(); break;
            default: bookCall();
        }
    }

    private static void portCall() {
        int x = drawnNumber();
        int i = drawnPerson();
        int what = drawn(0, 3);
        switch (below(8)) {
            case 0: if (below(12) == 0) { layDrawn(); } break;
            case 1: due("fault()", real.fault(), model.fault()); break;
            case 2: case 3: due("number(" + x + "," + what + ")", real.number(x, what), model.number(x, what)); break;
            case 4: case 5: due("person(" + i + "," + what + ")", real.person(i, what), model.person(i, what)); break;
            case 6: due("law(" + what + ")", real.law(what), model.law(what)); break;
            default:
                int counted = drawn(0, 10);
                due("count(" + counted + ")", real.count(counted), model.count(counted));
        }
    }

    private static void wordCall() {
        int x = drawnNumber();
        int use = drawn(1, 3);
        int what = drawn(0, 2);
        switch (below(5)) {
            case 0: if (below(3) == 0) { due("hush()", real.hush(), model.hush()); } break;
            case 1: case 2: due("tell(" + x + "," + use + ")", real.tell(x, use), model.tell(x, use)); break;
            case 3: due("words(" + what + ")", real.words(what), model.words(what)); break;
            default:
                for (int i = 0; i < model.count(1); i++) {
                    due("say(" + i + ")", real.say(i), model.say(i));
                }
        }
    }

    private static void dayCall() {
        int x = drawnNumber();
        int i = drawnPerson();
        int amount = big || below(5) == 0 ? drawn(1, 99) : drawn(1, 20);
        int what = drawn(0, 4);
        boolean feast = below(3) == 0;
        switch (below(10)) {
            case 0: due("say(" + i + ")", real.say(i), model.say(i)); break;
            case 1: case 2: due("speak(" + i + ")", real.speak(i), model.speak(i)); break;
            case 3: due("lend(" + x + "," + i + ")", real.lend(x, i), model.lend(x, i)); break;
            case 4: due("born()", real.born(), model.born()); break;
            case 5: if (below(3) == 0) { due("dusk(" + feast + ")", real.dusk(feast), model.dusk(feast)); } break;
            case 6: due("undo()", real.undo(), model.undo()); break;
            default: due("best(" + i + "," + amount + "," + what + ")", real.best(i, amount, what), model.best(i, amount, what));
        }
    }

    private static void stuckCall() {
        int x = drawnNumber();
        int i = drawnPerson();
        int k = drawn(-1, 5);
        int n = drawn(1, 2);
        int what = drawn(0, 2);
        switch (below(7)) {
            case 0: due("stuck()", real.stuck(), model.stuck()); break;
            case 1: due("freed(" + i + ")", real.freed(i), model.freed(i)); break;
            case 2: if (below(4) == 0) { due("order(" + k + ")", real.order(k), model.order(k)); } break;
            case 3: due("deny(" + n + "," + what + ")", real.deny(n, what), model.deny(n, what)); break;
            case 4: due("guard()", real.guard(), model.guard()); break;
            case 5: due("value(" + x + ")", real.value(x), model.value(x)); break;
            default: due("changed()", real.changed(), model.changed());
        }
    }

    private static void bookCall() {
        int set = drawnSet();
        int amount = drawn(0, big || below(6) == 0 ? 99 : 15);
        int i = drawnPerson();
        int row = drawn(-1, 3);
        int what = drawn(0, 1);
        switch (below(14)) {
            case 0: case 1:
                int kind = drawn(0, 3);
                due("ways(" + set + "," + amount + "," + kind + ")", real.ways(set, amount, kind), model.ways(set, amount, kind));
                break;
            case 2: due("lowest(" + i + ")", real.lowest(i), model.lowest(i)); break;
            case 3: case 4: due("enter(" + set + ")", real.enter(set), model.enter(set)); break;
            case 5: if (below(2) == 0) { due("close()", real.close(), model.close()); } break;
            case 6: case 7: case 8: due("book(" + row + ")", real.book(row), model.book(row)); break;
            case 9: due("twice()", real.twice(), model.twice()); break;
            case 10: due("corner(" + i + "," + what + ")", real.corner(i, what), model.corner(i, what)); break;
            case 11:
                int z = drawn(0, 9999);
                int n = drawn(1, 30);
                due("year(" + z + "," + n + "," + what + ")", real.year(z, n, what), model.year(z, n, what));
                break;
            case 12: due("keep()", real.keep(), model.keep()); break;
            default: if (below(2) == 0) { due("back()", real.back(), model.back()); }
        }
    }
}
