/**
 * "nothing changes then": of two objects that are made alike one is asked the refused call as well. Both must
 * look alike then, and with each undo, each port brought back, the text laid, more told, written and entered.
 */
final class Refused {
    interface Calls {
        void on(TakenNumbers port);
    }

    interface Call {
        int of(TakenNumbers port);
    }

    private final Check check;
    private final Calls before;

    Refused(Check check, Calls before) {
        this.check = check;
        this.before = before;
    }

    void due(String name, int want, Call call) {
        compare(name, want, call, "at once", port -> { });
        for (int k = 1; k <= 9; k++) {
            int many = k;
            compare(name, want, call, "undone " + k + " times", port -> repeat(many, port::undo));
        }
        for (int k = 1; k <= 3; k++) {
            int many = k;
            compare(name, want, call, "back " + k + " times", port -> repeat(many, port::back));
        }
        compare(name, want, call, "laid", TakenNumbers::lay);
        compare(name, want, call, "with more", Refused::addOfEach);
    }

    private void compare(String name, int want, Call call, String then, Calls probe) {
        TakenNumbers plain = new TakenNumbers();
        TakenNumbers asked = new TakenNumbers();
        before.on(plain);
        before.on(asked);
        check.due(name, call.of(asked), want);
        probe.on(plain);
        probe.on(asked);
        String differs = Seen.of(asked).differsFrom(Seen.of(plain));
        check.that(name + ", " + then + ": " + differs, differs.isEmpty());
    }

    private static void repeat(int many, Runnable call) {
        for (int k = 0; k < many; k++) {
            call.run();
        }
    }

    private static void addOfEach(TakenNumbers port) {
        port.write(';');
        port.enter(1);
        port.keep();
        port.born();
        for (int x = 1; x <= port.count(0); x++) {
            port.tell(x, 1);
        }
        for (int i = 0; i < port.count(1); i++) {
            port.speak(i);
        }
    }
}
