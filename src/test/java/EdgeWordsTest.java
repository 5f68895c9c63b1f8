/** The edges of promises 9 to 11: a method for each sentence that names one. */
public final class EdgeWordsTest {
    private static final Check CHECK = new Check();
    private static final int NO = TakenNumbers.NO, BAD = TakenNumbers.BAD, FULL = TakenNumbers.FULL;
    private static final int[] FAR = {Integer.MIN_VALUE, Integer.MIN_VALUE + 1, -65536, -256, -32, 256, 65536, Integer.MAX_VALUE};

    public static void main(String[] args) {
        numbersThatThereAre();
        usesOneToThree();
        eachNumberOnce();
        halfOfEvenOnes();
        tenAtMost();
        fewerNumbersThanTen();
        firstOfSeveralRefusals();
        refusedChangesNothing();
        takenAndOwnedOnesCanBeTold();
        hushTellsHowMany();
        wordsWhat();
        noWords();
        lowestAndHighestSum();
        lowestAndHighestPrice();
        wholeIsOneByAnd();
        sumsAreByAnd();
        signsAreByAndAndLess();
        halvesAreByAnyUse();
        tenWordsAreASaying();
        wordsOfNothingOrLess();
        wordsStay();
        CHECK.end();
    }

    // ---- promise 9

    private static void numbersThatThereAre() {
        for (int n : new int[] {1, 9, 24}) {
            for (int x = -2; x <= 34; x++) {
                TakenNumbers port = Given.laid("n" + n + ";p1;");
                CHECK.due("tell(" + x + ", 1) of " + n, port.tell(x, 1), x >= 1 && x <= n ? 1 : BAD);
            }
            for (int far : FAR) {
                CHECK.due("tell(" + far + ", 1)", Given.laid("n" + n + ";p1;").tell(far, 1), BAD);
            }
        }
    }

    /** "in a USE (1 to 3)" */
    private static void usesOneToThree() {
        for (int use = -2; use <= 6; use++) {
            CHECK.due("tell(2, " + use + ")", new TakenNumbers().tell(2, use), use >= 1 && use <= 3 ? 1 : BAD);
        }
        for (int far : FAR) {
            CHECK.due("tell(2, " + far + ")", new TakenNumbers().tell(2, far), BAD);
        }
    }

    /** "NO: it is in them" */
    private static void eachNumberOnce() {
        for (int first = 1; first <= 3; first++) {
            for (int then = 1; then <= 3; then++) {
                TakenNumbers port = Given.laid("n24;p1;");
                CHECK.due("24 in use " + first, port.tell(24, first), 1);
                CHECK.due("24 once more, in use " + then, port.tell(24, then), NO);
                CHECK.due("2 in use " + then, port.tell(2, then), 2);
                CHECK.due("24, not told last", port.tell(24, then), NO);
                CHECK.due("22 in use " + then, port.tell(22, then), 3);
            }
        }
    }

    /** "HALF of an odd one" */
    private static void halfOfEvenOnes() {
        for (int x = 1; x <= 24; x++) {
            CHECK.due("tell(" + x + ", 3)", Given.laid("n24;p1;").tell(x, 3), x % 2 == 0 ? 1 : NO);
            CHECK.due("tell(" + x + ", 2)", Given.laid("n24;p1;").tell(x, 2), 1);
        }
    }

    /** "(10 at most, each NUMBER once)" */
    private static void tenAtMost() {
        TakenNumbers port = Given.laid("n24;p1;");
        for (int k = 1; k <= 10; k++) {
            CHECK.due("word " + k, port.tell(25 - k, 1 + k % 2), k);
        }
        CHECK.due("the 11th", port.tell(1, 1), FULL);
        CHECK.due("the 11th, by half", port.tell(2, 3), FULL);
        CHECK.due("ten words", port.count(6), 10);
        CHECK.due("hush()", port.hush(), 10);
        CHECK.due("the first of others", port.tell(1, 1), 1);
    }

    private static void fewerNumbersThanTen() {
        TakenNumbers port = Given.laid("n1;p1;");
        CHECK.due("the only one", port.tell(1, 1), 1);
        CHECK.due("once more", port.tell(1, 2), NO);
        CHECK.due("there is no other", port.tell(2, 1), BAD);
        port = new TakenNumbers();
        for (int x = 1; x <= 9; x++) {
            CHECK.due("tell(" + x + ", 1) of 9", port.tell(x, 1), x);
        }
        CHECK.due("a tenth", port.tell(10, 1), BAD);
    }

    /** "BAD .. NO .. FULL. Of several the first" */
    private static void firstOfSeveralRefusals() {
        TakenNumbers port = Given.laid("n24;p1;");
        for (int x = 1; x <= 10; x++) {
            port.tell(x, 1);
        }
        CHECK.due("bad and full", port.tell(25, 1), BAD);
        CHECK.due("a bad use, and full", port.tell(24, 4), BAD);
        CHECK.due("a bad use, and in them", port.tell(1, 0), BAD);
        CHECK.due("in them, and full", port.tell(10, 1), NO);
        CHECK.due("in them, odd, and full", port.tell(9, 3), NO);
        CHECK.due("half of an odd one, and full", port.tell(23, 3), NO);
        CHECK.due("full alone", port.tell(24, 3), FULL);
        CHECK.due("half of an odd one that there is not", port.tell(25, 3), BAD);
    }

    private static void refusedChangesNothing() {
        Refused busy = new Refused(CHECK, Given::busyDay);
        busy.due("tell(0, 1)", BAD, port -> port.tell(0, 1));
        busy.due("tell(10, 1)", BAD, port -> port.tell(10, 1));
        busy.due("tell(1, 0)", BAD, port -> port.tell(1, 0));
        busy.due("tell(1, 4)", BAD, port -> port.tell(1, 4));
        busy.due("tell(2, 2)", NO, port -> port.tell(2, 2));
        busy.due("tell(1, 3)", NO, port -> port.tell(1, 3));
        busy.due("words(3)", BAD, port -> port.words(3));
        Refused full = new Refused(CHECK, port -> {
            Given.rewrite(port, "n12;p9;p5;");
            port.lay();
            for (int x = 1; x <= 10; x++) {
                port.tell(x, 1);
            }
        });
        full.due("tell(11, 1), full", FULL, port -> port.tell(11, 1));
        full.due("tell(10, 2), full", NO, port -> port.tell(10, 2));
    }

    /** THE WORDS are NUMBERS in USES: who may use them is asked when they are said. */
    private static void takenAndOwnedOnesCanBeTold() {
        TakenNumbers port = Given.laid("n2;p2;p2;h2,1;");
        port.born();
        CHECK.due("a taken one", port.tell(1, 1), 1);
        CHECK.due("one that is of somebody", port.tell(2, 3), 2);
    }

    // ---- promise 10

    /** "No WORDS: how many there were" */
    private static void hushTellsHowMany() {
        TakenNumbers port = Given.laid("n24;p1;");
        for (int many = 0; many <= 10; many++) {
            for (int x = 1; x <= many; x++) {
                port.tell(x, 1);
            }
            CHECK.due("hush() of " + many, port.hush(), many);
            CHECK.due("words left", port.count(6), 0);
            CHECK.due("they come to nothing", port.words(0), 1000);
        }
        CHECK.due("hush() once more", port.hush(), 0);
    }

    // ---- promise 11

    private static void wordsWhat() {
        TakenNumbers port = Given.laid("n4;p1;c3,7;");
        port.tell(3, 1);
        int[] answers = {BAD, BAD, 1003, 7, 1, BAD, BAD};
        for (int what = -2; what <= 4; what++) {
            CHECK.due("words(" + what + ")", port.words(what), answers[what + 2]);
        }
        for (int far : FAR) {
            CHECK.due("words(" + far + ")", port.words(far), BAD);
        }
    }

    /** "none is of no WORDS" */
    private static void noWords() {
        for (int kind = 0; kind <= 3; kind++) {
            TakenNumbers port = Given.laid("n4;p1;k" + kind + ",1,1;");
            CHECK.due("none come to nothing", port.words(0), 1000);
            CHECK.due("none cost nothing", port.words(1), 0);
            CHECK.due("none are no saying by kind " + kind, port.words(2), 0);
            CHECK.due("nor are they bad", port.words(3), BAD);
        }
    }

    /** "What THE WORDS come to, and 1000": from ten by LESS to ten by AND. */
    private static void lowestAndHighestSum() {
        TakenNumbers port = Given.laid("n24;p1;");
        for (int x = 15; x <= 24; x++) {
            port.tell(x, 2);
        }
        CHECK.due("15 to 24 by less", port.words(0), 1000 - 195);
        port.hush();
        for (int x = 15; x <= 24; x++) {
            port.tell(x, 1);
        }
        CHECK.due("15 to 24", port.words(0), 1000 + 195);
        Given.retell(port, 1, 2);
        CHECK.due("1 by less", port.words(0), 999);
        Given.retell(port, 1, 1);
        CHECK.due("1", port.words(0), 1001);
        Given.retell(port, 2, 3, 1, 2);
        CHECK.due("half of 2, less 1", port.words(0), 1000);
        Given.retell(port, 24, 3);
        CHECK.due("half of 24", port.words(0), 1012);
    }

    /** "Its PRICE is what all cost together, and L with each LESS, H with each HALF" */
    private static void lowestAndHighestPrice() {
        TakenNumbers dear = Given.laid("n10;p1;c1,9;c2,9;c3,9;c4,9;c5,9;c6,9;c7,9;c8,9;c9,9;c10,9;k3,9,8;");
        for (int x = 1; x <= 10; x++) {
            dear.tell(x, x == 10 ? 3 : x == 9 ? 1 : 2);
        }
        CHECK.due("ten of 9, eight by less, one by half", dear.words(1), 90 + 72 + 8);
        Given.retell(dear, 10, 3);
        CHECK.due("9, and 8 for half", dear.words(1), 17);
        Given.retell(dear, 10, 2);
        CHECK.due("9, and 9 for less", dear.words(1), 18);
        Given.retell(dear, 10, 1);
        CHECK.due("9 by and", dear.words(1), 9);
        TakenNumbers cheap = Given.laid("n2;p1;c1,0;c2,0;k3,0,0;");
        Given.retell(cheap, 1, 2, 2, 3);
        CHECK.due("nothing", cheap.words(1), 0);
        TakenNumbers law = Given.laid("n4;p1;c2,0;c4,0;k0,5,7;");
        Given.retell(law, 2, 2, 4, 3);
        CHECK.due("a price though it is no saying", law.words(1), 12);
    }

    private static void sayings(String text, int[][] told, int... due) {
        TakenNumbers port = Given.laid(text);
        for (int k = 0; k < told.length; k++) {
            Given.retell(port, told[k]);
            CHECK.due("words " + k + " by " + text, port.words(2), due[k]);
        }
    }

    /** "By WHOLE it is one NUMBER by AND" */
    private static void wholeIsOneByAnd() {
        int[][] told = {{}, {1, 1}, {24, 1}, {1, 2}, {24, 2}, {24, 3}, {1, 1, 2, 1}, {2, 1, 1, 2}};
        sayings("n24;p1;k0,1,1;", told, 0, 1, 1, 0, 0, 0, 0, 0);
    }

    /** "by SUMS all are by AND" */
    private static void sumsAreByAnd() {
        int[][] told = {{}, {1, 1}, {1, 1, 24, 1}, {1, 2}, {24, 3}, {24, 1, 1, 2}, {1, 2, 24, 1}, {1, 1, 24, 3}, {24, 3, 1, 1}};
        sayings("n24;p1;k1,1,1;", told, 0, 1, 1, 0, 0, 0, 0, 0, 0);
    }

    /** "by SIGNS by AND, LESS" */
    private static void signsAreByAndAndLess() {
        int[][] told = {{}, {1, 1}, {1, 1, 24, 1}, {24, 1, 1, 2}, {1, 2, 24, 1}, {24, 3}, {24, 3, 1, 1}, {1, 1, 3, 2, 24, 3}};
        sayings("n24;p1;k2,1,1;", told, 0, 1, 1, 1, 1, 0, 0, 0);
    }

    /** "by HALVES in any USE" */
    private static void halvesAreByAnyUse() {
        int[][] told = {{}, {1, 1}, {1, 1, 24, 1}, {24, 1, 1, 2}, {24, 3}, {2, 3, 24, 3}, {24, 3, 1, 1, 2, 2}};
        sayings("n24;p1;k3,1,1;", told, 0, 1, 1, 1, 1, 1, 1);
    }

    private static void tenWordsAreASaying() {
        int[] sums = new int[20];
        int[] signs = new int[20];
        int[] halves = new int[20];
        for (int k = 0; k < 10; k++) {
            sums[2 * k] = signs[2 * k] = halves[2 * k] = 10 - k;
            sums[2 * k + 1] = 1;
            signs[2 * k + 1] = k == 9 ? 2 : 1;
            halves[2 * k + 1] = k == 8 ? 3 : 1;
        }
        int[][] told = {sums, signs, halves};
        sayings("n24;p1;k0,1,1;", told, 0, 0, 0);
        sayings("n24;p1;k1,1,1;", told, 1, 0, 0);
        sayings("n24;p1;k2,1,1;", told, 1, 1, 0);
        sayings("n24;p1;k3,1,1;", told, 1, 1, 1);
    }

    /** Read by its plainest words: a SAYING is so by its USES, whatever it comes to. */
    private static void wordsOfNothingOrLess() {
        int[][] told = {{1, 1, 2, 1, 3, 2}, {3, 2}};
        sayings("n3;p1;k1,1,1;", told, 0, 0);
        sayings("n3;p1;k2,1,1;", told, 1, 1);
        sayings("n3;p1;k3,1,1;", told, 1, 1);
    }

    /** "THE WORDS stay": with all that can be undone, and when it is. */
    private static void wordsStay() {
        TakenNumbers port = Given.laid("n9;p3;p4;h9,0;");
        Given.retell(port, 1, 1, 2, 1);
        port.say(0);
        CHECK.due("said", port.words(0), 1003);
        port.speak(1);
        port.lend(9, 1);
        port.dusk(true);
        port.dusk(false);
        port.born();
        port.keep();
        CHECK.due("two words", port.count(6), 2);
        port.tell(9, 1);
        for (int k = 5; k >= 0; k--) {
            CHECK.due("undo()", port.undo(), k);
            CHECK.due("the words stay", port.words(0), 1012);
        }
        port.back();
        CHECK.due("back() leaves them", port.words(0), 1012);
        port.wipe();
        port.close();
        CHECK.due("so do wipe and close", port.count(6), 3);
    }
}
