/** Objects as the tests begin with them. */
final class Given {
    private Given() {
    }

    static TakenNumbers laid(String text) {
        TakenNumbers port = new TakenNumbers();
        rewrite(port, text);
        if (port.lay() < 0) {
            throw new IllegalStateException("not laid: " + text);
        }
        return port;
    }

    /** In THE TEXT stands just this. */
    static void rewrite(TakenNumbers port, String text) {
        port.wipe();
        for (char letter : text.toCharArray()) {
            port.write(letter);
        }
    }

    static int faultOf(String text) {
        TakenNumbers port = new TakenNumbers();
        rewrite(port, text);
        return port.fault();
    }

    /** THE WORDS are just these: pairs of a number and a use. */
    static void retell(TakenNumbers port, int... pairs) {
        port.hush();
        for (int k = 0; k + 1 < pairs.length; k += 2) {
            if (port.tell(pairs[k], pairs[k + 1]) < 0) {
                throw new IllegalStateException("not told: " + pairs[k] + " in use " + pairs[k + 1]);
            }
        }
    }

    /** On a new object: two ports kept, more undone than can be, words, a book, a birth, one who spoke, one lent. */
    static void busyDay(TakenNumbers port) {
        port.speak(3);
        port.keep();
        port.dusk(true);
        port.speak(1);
        port.keep();
        for (int k = 0; k < 4; k++) {
            port.dusk(false);
        }
        port.lend(5, 2);
        port.born();
        port.speak(0);
        port.tell(2, 1);
        port.tell(6, 3);
        port.enter(5);
        port.enter(12);
    }
}
