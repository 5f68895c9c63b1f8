import java.util.Random;

/** Promises 1 to 8: the new object, the text with its first fault, what is laid. */
public final class PortsTest {
    private static final Check CHECK = new Check();
    private static final int NONE = TakenNumbers.NONE, NO = TakenNumbers.NO, BAD = TakenNumbers.BAD;

    public static void main(String[] args) {
        newObject();
        writeAndWipe();
        faults();
        drawnTexts();
        laying();
        numbers();
        persons();
        laws();
        CHECK.end();
    }

    private static void newObject() {
        TakenNumbers port = new TakenNumbers();
        int[] counts = {9, 4, 0, 0, 0, 0, 0, 0, 0, 0, 0};
        for (int what = 0; what < counts.length; what++) {
            CHECK.due("new: count(" + what + ")", port.count(what), counts[what]);
        }
        int[] amounts = {4, 4, 7, 12};
        for (int i = 0; i < amounts.length; i++) {
            CHECK.due("new: person(" + i + ", 0)", port.person(i, 0), amounts[i]);
            CHECK.due("new: person(" + i + ", 1)", port.person(i, 1), 0);
            CHECK.due("new: person(" + i + ", 2)", port.person(i, 2), i == 0 ? 511 : 511 - 16);
        }
        for (int x = 1; x <= 9; x++) {
            CHECK.due("new: number(" + x + ", 0)", port.number(x, 0), x == 7 ? 3 : 1);
            CHECK.due("new: number(" + x + ", 1)", port.number(x, 1), x == 5 ? 0 : NONE);
        }
        CHECK.due("new: the text is empty", port.wipe(), 0);
        CHECK.due("new: undo()", port.undo(), NO);
        CHECK.due("new: back()", port.back(), NO);
    }

    private static void writeAndWipe() {
        TakenNumbers port = new TakenNumbers();
        CHECK.due("write(31)", port.write(31), BAD);
        CHECK.due("write(127)", port.write(127), BAD);
        CHECK.due("write(-1)", port.write(-1), BAD);
        CHECK.due("write(65536 + 'n')", port.write(65536 + 'n'), BAD);
        CHECK.due("write(32)", port.write(32), 1);
        CHECK.due("write(126)", port.write(126), 2);
        for (int length = 3; length <= 200; length++) {
            CHECK.due("write up to 200", port.write('p'), length);
        }
        CHECK.due("write the 201st", port.write('p'), TakenNumbers.FULL);
        CHECK.due("write a bad one, full", port.write(10), BAD);
        CHECK.due("count(10), full", port.count(10), 200);
        CHECK.due("wipe(), full", port.wipe(), 200);
        CHECK.due("wipe(), empty", port.wipe(), 0);
        CHECK.due("write behind wipe", port.write('n'), 1);
        CHECK.due("what is laid stays", port.count(0), 9);
    }

    private static void faults() {
        String[] fine = {"", "n1;", "n24;", "n01;", "n5;n9;n3;c3,9;", "c12,0;", "c12,09;", "p1;p99;p01;", "p1;p2;p3;p4;p5;p6;",
            "p5;h12,0;", "p5;p5;h1,1;h1,0;", "k0,0,0;", "k3,9,9;", "k03,09,00;", "k1,1,1;k2,2,2;", "n3;k1,1,1;p3;c3,3;h3,0;"};
        for (String text : fine) {
            CHECK.due("fault of " + text, Given.faultOf(text), NONE);
        }
        String[] first = {"n0;", "n25;", "n", "n;", "n1", "n1,", "n1,2;", "n001;", "n-1;", "n 1;", " n1;", "N1;", "x1;", ";", "5",
            "c0,1;", "c13,1;", "c1;", "c1,10;", "c1,1", "c1,1,1;", "c,1;", "c1,;", "p0;", "p100;", "p00;", "p1,1;", "pp1;",
            "h1,0;", "h1;", "k4,0,0;", "k1,10,0;", "k1,0,10;", "k1,1;", "k1;", "k1,1,1", "k1,1,1,1;", "k,1,1;"};
        for (String text : first) {
            CHECK.due("fault of " + text, Given.faultOf(text), 0);
            CHECK.due("fault of n5;n6;" + text, Given.faultOf("n5;n6;" + text), 6);
        }
        CHECK.due("n behind p", Given.faultOf("p3;n5;"), 3);
        CHECK.due("n behind k", Given.faultOf("n7;k1,1,1;n5;x"), 10);
        CHECK.due("n that is refused for its place, fine by itself", Given.faultOf("n7;c1,1;n5;"), 8);
        CHECK.due("the 7th person", Given.faultOf("p1;p2;p3;p4;p5;p6;p7;"), 18);
        CHECK.due("a person not told ahead", Given.faultOf("p1;h1,1;p1;"), 3);
        CHECK.due("a number beyond those told", Given.faultOf("n5;c6,1;"), 3);
        CHECK.due("a number beyond the last told", Given.faultOf("n9;n5;p1;h6,0;"), 9);
        CHECK.due("the first of two faults", Given.faultOf("p1;c0,1;n0;"), 3);
        String long198 = "n5;".repeat(66);
        CHECK.due("198 letters", Given.faultOf(long198), NONE);
        CHECK.due("200 letters, the last a figure", Given.faultOf(long198 + "n5"), 198);
        CHECK.due("200 letters, the last a comma", Given.faultOf(long198.substring(3) + "p1;c,"), 198);
        CHECK.due("199 letters", Given.faultOf(long198 + "n"), 198);
        TakenNumbers port = new TakenNumbers();
        Given.rewrite(port, "p55;p5;");
        Given.rewrite(port, "p5");
        CHECK.due("what was wiped is not read", port.fault(), 0);
        CHECK.due("no end", Given.faultOf("p1;p2"), 3);
    }

    /** Texts of a few letters, drawn, against the model's way of reading. */
    private static void drawnTexts() {
        Random random = new Random(7);
        String letters = "nncppphhkk00112345679,,,,,;;;;;;";
        Model model = new Model();
        for (int k = 0; k < 30000; k++) {
            TakenNumbers port = new TakenNumbers();
            model.wipe();
            StringBuilder text = new StringBuilder(k % 3 == 0 ? "n6;p7;" : "");
            for (int length = random.nextInt(12); length > 0; length--) {
                text.append(letters.charAt(random.nextInt(letters.length())));
            }
            text.append(k % 2 == 0 ? ";" : "");
            for (int at = 0; at < text.length(); at++) {
                port.write(text.charAt(at));
                model.write(text.charAt(at));
            }
            CHECK.due("fault of " + text, port.fault(), model.fault());
            if (k % 10 == 0 && text.indexOf("n6") == 0) {
                CHECK.due("lay of " + text, port.lay(), model.lay());
            }
        }
    }

    private static void laying() {
        TakenNumbers port = new TakenNumbers();
        CHECK.due("lay of no text", port.lay(), NO);
        Given.rewrite(port, "n5;");
        CHECK.due("fault without a person", port.fault(), NONE);
        CHECK.due("lay without a person", port.lay(), NO);
        Given.rewrite(port, "n5;p3;x");
        CHECK.due("lay with a fault", port.lay(), NO);
        CHECK.due("nothing changes then", port.count(0), 9);
        port.speak(0);
        port.keep();
        port.tell(1, 1);
        port.enter(1);
        port.dusk(true);
        port.born();
        Given.rewrite(port, "n5;");
        CHECK.due("lay without a person changes nothing", port.lay() * 10 + port.count(8), NO * 10 + 2);
        Given.rewrite(port, "p3;");
        CHECK.due("lay", port.lay(), 12);
        int[] counts = {12, 1, 0, 0, 0, 0, 0, 0, 0, 0, 3};
        for (int what = 0; what < counts.length; what++) {
            CHECK.due("laid: count(" + what + ")", port.count(what), counts[what]);
        }
        CHECK.due("laid: undo()", port.undo(), NO);
        CHECK.due("laid: back()", port.back(), NO);
        CHECK.due("laid: number(7, 0)", port.number(7, 0), 1);
        CHECK.due("laid: number(5, 1)", port.number(5, 1), NONE);
        port.speak(0);
        CHECK.due("laid once more, the same text", port.lay(), 12);
        CHECK.due("laid once more: all free", port.count(2), 0);
        costsOfTheLaidPort();
    }

    /** What was found for one port is not answered for the next. */
    private static void costsOfTheLaidPort() {
        TakenNumbers port = Given.laid("n6;p5;h5,0;p5;c1,9;k1,1,1;");
        CHECK.due("5 by 2 and 3", port.best(1, 5, 2), 6);
        Given.rewrite(port, "n6;p5;h5,0;p5;c2,9;k1,1,1;");
        port.lay();
        CHECK.due("5 by 1 and 4", port.best(1, 5, 2), 9);
    }

    private static void numbers() {
        TakenNumbers port = Given.laid("n8;p3;p5;c1,9;c1,0;c8,7;h2,0;h2,1;h4,0;");
        CHECK.due("the last cost", port.number(1, 0), 0);
        CHECK.due("cost of 8", port.number(8, 0), 7);
        CHECK.due("cost not told", port.number(3, 0), 1);
        CHECK.due("the last owner", port.number(2, 1), 1);
        CHECK.due("owner of 4", port.number(4, 1), 0);
        CHECK.due("nobody's", port.number(1, 1), NONE);
        CHECK.due("not taken", port.number(3, 2), NONE);
        CHECK.due("not lent", port.number(2, 3), NONE);
        port.lend(2, 0);
        CHECK.due("lent to 0", port.number(2, 3), 0);
        CHECK.due("whose it is stays", port.number(2, 1), 1);
        port.born();
        port.speak(0);
        CHECK.due("taken by a birth", port.number(1, 2), 7);
        CHECK.due("taken by 0", port.number(3, 2), 0);
        CHECK.due("number(0, 0)", port.number(0, 0), BAD);
        CHECK.due("number(9, 0)", port.number(9, 0), BAD);
        CHECK.due("number(-1, 1)", port.number(-1, 1), BAD);
        CHECK.due("number(1, 4)", port.number(1, 4), BAD);
        CHECK.due("number(1, -1)", port.number(1, -1), BAD);
        CHECK.due("number(max, 0)", port.number(Integer.MAX_VALUE, 0), BAD);
        CHECK.due("number(min, 0)", port.number(Integer.MIN_VALUE, 0), BAD);
    }

    private static void persons() {
        TakenNumbers port = Given.laid("n6;p3;p5;h2,0;h5,1;");
        CHECK.due("what 1 has to say", port.person(1, 0), 5);
        CHECK.due("what 0 may use", port.person(0, 2), 63 - 16);
        CHECK.due("what 1 may use", port.person(1, 2), 63 - 2);
        port.lend(2, 1);
        CHECK.due("what is lent to 1 he may use", port.person(1, 2), 63);
        CHECK.due("and whose it is may still", port.person(0, 2), 63 - 16);
        port.speak(1);
        CHECK.due("1 has said it", port.person(1, 1), 1);
        CHECK.due("0 has not", port.person(0, 1), 0);
        CHECK.due("what is taken he may not use, though it is his", port.person(1, 2), 63 - 16);
        CHECK.due("what is taken nobody may use", port.person(0, 2), 63 - 16);
        port.dusk(false);
        CHECK.due("nothing is lent the next day", port.person(1, 2), 63 - 2);
        CHECK.due("nobody has said anything the next day", port.person(1, 1), 0);
        CHECK.due("person(2, 0)", port.person(2, 0), BAD);
        CHECK.due("person(-1, 0)", port.person(-1, 0), BAD);
        CHECK.due("person(0, 3)", port.person(0, 3), BAD);
        CHECK.due("person(0, -1)", port.person(0, -1), BAD);
    }

    private static void laws() {
        TakenNumbers port = Given.laid("p3;");
        int[] without = {1, 1, 2};
        TakenNumbers other = Given.laid("k0,1,1;k2,7,9;p3;");
        int[] told = {2, 7, 9};
        for (int what = 0; what < 3; what++) {
            CHECK.due("law(" + what + ") without", port.law(what), without[what]);
            CHECK.due("law(" + what + ") told", other.law(what), told[what]);
        }
        CHECK.due("law(3)", port.law(3), BAD);
        CHECK.due("law(-1)", port.law(-1), BAD);
    }
}
