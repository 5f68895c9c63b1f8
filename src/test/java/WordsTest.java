/** Promises 9 to 11: the words. */
public final class WordsTest {
    private static final Check CHECK = new Check();
    private static final int NO = TakenNumbers.NO, BAD = TakenNumbers.BAD;

    public static void main(String[] args) {
        telling();
        hushing();
        sums();
        sayingsByLaw();
        CHECK.end();
    }

    private static void telling() {
        TakenNumbers port = Given.laid("n24;p3;");
        CHECK.due("tell(0, 1)", port.tell(0, 1), BAD);
        CHECK.due("tell(25, 1)", port.tell(25, 1), BAD);
        CHECK.due("tell(1, 0)", port.tell(1, 0), BAD);
        CHECK.due("tell(1, 4)", port.tell(1, 4), BAD);
        CHECK.due("half of 3", port.tell(3, 3), NO);
        CHECK.due("half of 4", port.tell(4, 3), 1);
        CHECK.due("4 once more, in another use", port.tell(4, 1), NO);
        for (int x = 5; x <= 13; x++) {
            CHECK.due("tell(" + x + ", 2)", port.tell(x, 2), x - 3);
        }
        CHECK.due("the 11th", port.tell(1, 1), TakenNumbers.FULL);
        CHECK.due("one that is in them, full", port.tell(4, 1), NO);
        CHECK.due("half of an odd one, full", port.tell(15, 3), NO);
        CHECK.due("a bad one, full", port.tell(25, 1), BAD);
        CHECK.due("count(6)", port.count(6), 10);
        port.speak(0);
        Given.retell(port);
        CHECK.due("a taken one can be told", port.tell(3, 1), 1);
    }

    private static void hushing() {
        TakenNumbers port = new TakenNumbers();
        CHECK.due("hush() without words", port.hush(), 0);
        Given.retell(port, 1, 1, 2, 3);
        CHECK.due("hush()", port.hush(), 2);
        CHECK.due("hush() again", port.hush(), 0);
        CHECK.due("what was in them can be told again", port.tell(1, 2), 1);
    }

    private static void sums() {
        TakenNumbers port = Given.laid("n24;p3;c4,5;c9,0;k1,3,7;");
        CHECK.due("no words come to nothing", port.words(0), 1000);
        CHECK.due("no words cost nothing", port.words(1), 0);
        CHECK.due("no words are no saying", port.words(2), 0);
        Given.retell(port, 4, 3, 9, 1, 11, 2);
        CHECK.due("2 and 9 less 11", port.words(0), 1000);
        CHECK.due("5 + 7, 0, 1 + 3", port.words(1), 16);
        Given.retell(port, 24, 2, 23, 2, 22, 2);
        CHECK.due("less than nothing", port.words(0), 1000 - 69);
        CHECK.due("words(3)", port.words(3), BAD);
        CHECK.due("words(-1)", port.words(-1), BAD);
        CHECK.due("the words stay with dusk", port.dusk(false) + port.count(6), 3);
        CHECK.due("the words stay when it is undone", port.undo() + port.count(6), 3);
    }

    private static void sayingsByLaw() {
        int[][] told = {{4, 1}, {4, 1, 5, 1}, {4, 1, 3, 2}, {4, 3}, {4, 1, 6, 3}, {3, 2}};
        int[][] due = {{1, 1, 1, 1}, {0, 1, 1, 1}, {0, 0, 1, 1}, {0, 0, 0, 1}, {0, 0, 0, 1}, {0, 0, 1, 1}};
        for (int kind = 0; kind < 4; kind++) {
            TakenNumbers port = Given.laid("n8;p4;k" + kind + ",1,1;");
            for (int k = 0; k < told.length; k++) {
                Given.retell(port, told[k]);
                CHECK.due("row " + k + " by kind " + kind, port.words(2), due[k][kind]);
            }
        }
    }
}
