/** Objects as the tests begin with them. */
final class Given {
    private Given() {
    }

    static TakenNumbers laid(String text) {
        TakenNumbers port = new TakenNumbers();
        rewrite(port, text);
        if (port.lay() < 0) {
            throw new IllegalStateException("not laid: " + text);
        }
        return port;
    }

    /** In THE TEXT stands just this. */
    static void rewrite(TakenNumbers port, String text) {
        port.wipe();
        for (char letter : text.toCharArray()) {
            port.write(letter);
        }
    }

    static int faultOf(String text) {
        TakenNumbers port = new TakenNumbers();
        rewrite(port, text);
        return port.fault();
    }

    /** THE WORDS are just these: pairs of a number and a use. */
    static void retell(TakenNumbers port, int... pairs) {
        port.hush();
        for (int k = 0; k + 1 < pairs.length; k += 2) {
            if (port.tell(pairs[k], pairs[k + 1]) < 0) {
                throw new IllegalStateException("not told: " + pairs[k] + " in use " + pairs[k + 1]);
            }
        }
    }
}
