/** The edges of promises 1 to 8 and of the text: a method for each sentence that names one. */
public final class EdgePortsTest {
    private static final Check CHECK = new Check();
    private static final int NONE = TakenNumbers.NONE, NO = TakenNumbers.NO, BAD = TakenNumbers.BAD, FULL = TakenNumbers.FULL;
    private static final int[] FAR = {Integer.MIN_VALUE, Integer.MIN_VALUE + 1, -65536, -256, -32, 256, 65536, Integer.MAX_VALUE};

    public static void main(String[] args) {
        newObjectIsAsLaid();
        newObjectHasNoText();
        newObjectSaysAtOnce();
        lettersThatCanBeWritten();
        twoHundredLettersAtMost();
        badAheadOfFull();
        wipeTellsHowLong();
        wipeLeavesWhatIsLaid();
        emptyTextHasNoFault();
        lettersOfItems();
        oneOrTwoFigures();
        asManyNumbersAsTold();
        endedAtEachLetter();
        numbersOneToTwentyFour();
        twelveNumbersWithout();
        noOtherItemAheadOfN();
        lastN();
        numberOfACost();
        costNoughtToNine();
        lastCost();
        amountOneToNinetyNine();
        sixPersonsAtMost();
        numberThatIsOfSomebody();
        personToldAhead();
        lastOwner();
        kindNoughtToThree();
        costOfLessAndHalf();
        lawWithout();
        lastLaw();
        firstItemThatIsNotSo();
        faultAtTheLastLetter();
        textOfTwoHundredLetters();
        layNeedsNoFault();
        layNeedsAPerson();
        layTellsNumbers();
        layMakesAllNew();
        layForgetsOtherTexts();
        layForgetsWhatWasFound();
        faultLeavesWhatIsLaid();
        layLeavesTheText();
        numberOfThoseThereAre();
        numberWhat();
        numberNone();
        numberTakenByEach();
        personOfThoseThereAre();
        personWhat();
        personMayUseNoneOrAll();
        lawWhat();
        theLastCall();
        CHECK.end();
    }

    private static void fault(String text, int want) {
        CHECK.due("fault of '" + text + "'", Given.faultOf(text), want);
    }

    // ---- promise 1

    /** "at first n9;p4;p4;p7;p12;c7,3;h5,0;" */
    private static void newObjectIsAsLaid() {
        TakenNumbers laid = Given.laid("n9;p4;p4;p7;p12;c7,3;h5,0;");
        laid.wipe();
        String differs = Seen.of(new TakenNumbers()).differsFrom(Seen.of(laid));
        CHECK.that("a new object is as laid: " + differs, differs.isEmpty());
    }

    private static void newObjectHasNoText() {
        CHECK.due("new: count(10)", new TakenNumbers().count(10), 0);
        CHECK.due("new: wipe()", new TakenNumbers().wipe(), 0);
        CHECK.due("new: fault()", new TakenNumbers().fault(), NONE);
        CHECK.due("new: lay()", new TakenNumbers().lay(), NO);
    }

    private static void newObjectSaysAtOnce() {
        CHECK.due("new: the price of 7", new TakenNumbers().best(2, 7, 1), 3);
        CHECK.due("new: the price of 5", new TakenNumbers().best(2, 5, 1), 2);
        CHECK.due("new: 12 by 3 and 9", new TakenNumbers().best(3, 12, 2), 4 + 256);
    }

    // ---- promise 2

    /** "A letter (32 to 126, as in ASCII)" */
    private static void lettersThatCanBeWritten() {
        for (int letter = -2; letter <= 300; letter++) {
            CHECK.due("write(" + letter + ")", new TakenNumbers().write(letter), letter >= 32 && letter <= 126 ? 1 : BAD);
        }
        for (int far : FAR) {
            CHECK.due("write(" + far + ")", new TakenNumbers().write(far), BAD);
        }
        for (int turn = 256; turn <= 65536; turn *= 16) {
            CHECK.due("write('p' + " + turn + ")", new TakenNumbers().write('p' + turn), BAD);
            CHECK.due("write('p' - " + turn + ")", new TakenNumbers().write('p' - turn), BAD);
        }
    }

    /** "letters (200 at most)" */
    private static void twoHundredLettersAtMost() {
        TakenNumbers port = new TakenNumbers();
        for (int length = 1; length <= 200; length++) {
            CHECK.due("write " + length, port.write(length % 2 == 0 ? 32 : 126), length);
        }
        CHECK.due("write the 201st", port.write('p'), FULL);
        CHECK.due("write the 201st once more", port.write('p'), FULL);
        CHECK.due("200 letters", port.count(10), 200);
        CHECK.due("wipe() the 200", port.wipe(), 200);
        CHECK.due("write behind it", port.write('p'), 1);
    }

    private static void badAheadOfFull() {
        TakenNumbers port = new TakenNumbers();
        Given.rewrite(port, "n5;".repeat(66) + "n5");
        CHECK.due("write(31), full", port.write(31), BAD);
        CHECK.due("write(127), full", port.write(127), BAD);
        CHECK.due("write(32), full", port.write(32), FULL);
        CHECK.due("write(126), full", port.write(126), FULL);
    }

    // ---- promise 3

    /** "THE TEXT is empty: how long it was" */
    private static void wipeTellsHowLong() {
        TakenNumbers port = new TakenNumbers();
        CHECK.due("wipe() of no letters", port.wipe(), 0);
        port.write('x');
        CHECK.due("wipe() of one", port.wipe(), 1);
        CHECK.due("wipe() once more", port.wipe(), 0);
        Given.rewrite(port, "x".repeat(199));
        CHECK.due("wipe() of 199", port.wipe(), 199);
        Given.rewrite(port, "x".repeat(200));
        CHECK.due("wipe() of 200", port.wipe(), 200);
        CHECK.due("no letters", port.count(10), 0);
        CHECK.due("no fault", port.fault(), NONE);
    }

    private static void wipeLeavesWhatIsLaid() {
        TakenNumbers wiped = Given.laid("n3;p3;c3,0;h2,0;k3,0,0;");
        TakenNumbers other = Given.laid("n3;p3;c3,0;h2,0;k3,0,0;");
        for (TakenNumbers port : new TakenNumbers[] {wiped, other}) {
            port.tell(1, 1);
            port.enter(7);
            port.speak(0);
            port.keep();
        }
        wiped.wipe();
        Given.rewrite(wiped, "n3;p3;c3,0;h2,0;k3,0,0;");
        String differs = Seen.of(wiped).differsFrom(Seen.of(other));
        CHECK.that("wipe leaves what is laid: " + differs, differs.isEmpty());
    }

    // ---- promise 4, and the text

    private static void emptyTextHasNoFault() {
        fault("", NONE);
    }

    /** "each a letter, then numbers": n and p with one number, c and h with two, k with three, no other letter. */
    private static void lettersOfItems() {
        for (char letter = 32; letter <= 126; letter++) {
            boolean one = letter == 'n' || letter == 'p';
            boolean two = letter == 'c' || letter == 'h';
            fault("n2;" + letter + "1;", one ? NONE : 3);
            fault("n2;p1;" + letter + "1,0;", two ? NONE : 6);
            fault("n2;" + letter + "1,1,1;", letter == 'k' ? NONE : 3);
            fault("n2;" + letter + ";", 3);
            fault("n2;" + letter, 3);
        }
    }

    /** "numbers (one or two figures)" */
    private static void oneOrTwoFigures() {
        String[] items = {"n#;", "p#;", "c#,1;", "c1,#;", "k#,1,1;", "k1,#,1;", "k1,1,#;"};
        for (String item : items) {
            fault(item.replace("#", ""), 0);
            fault(item.replace("#", "1"), NONE);
            fault(item.replace("#", "01"), NONE);
            fault(item.replace("#", "001"), 0);
            for (char sign : "/:-+ .;,na".toCharArray()) {
                fault(item.replace("#", "" + sign), 0);
                fault(item.replace("#", sign + "1"), 0);
            }
        }
        fault("p1;h,0;", 3);
        fault("p1;h01,0;", NONE);
        fault("p1;h001,0;", 3);
        fault("p1;h1,;", 3);
        fault("p1;h1,00;", NONE);
        fault("p1;h1,000;", 3);
    }

    /** "parted by , and a ; behind the last one" */
    private static void asManyNumbersAsTold() {
        String[] fine = {"n1;", "p1;", "c1,1;", "k1,1,1;"};
        for (String item : fine) {
            String open = item.substring(0, item.length() - 1);
            fault(item, NONE);
            fault(open, 0);
            fault(open + ",", 0);
            fault(open + ",1;", 0);
            fault(open + ",;", 0);
            fault(open + ":", 0);
            fault(open + " ;", 0);
            fault(item + ";", item.length());
            fault(item + " ", item.length());
        }
        fault("c1;1;", 0);
        fault("k1;1,1;", 0);
        fault("k1,1;1;", 0);
        fault("p1;h1;0;", 3);
        fault("p1;h1,0,0;", 3);
    }

    /** A text that ends at any letter has its fault where the ITEM begins that has no end. */
    private static void endedAtEachLetter() {
        String text = "n9;n24;c7,3;c24,09;p4;p99;h5,0;h12,01;k3,2,1;k00,09,9;";
        int start = 0;
        for (int length = 0; length <= text.length(); length++) {
            boolean whole = length == 0 || text.charAt(length - 1) == ';';
            start = whole ? length : start;
            fault(text.substring(0, length), whole ? NONE : start);
        }
    }

    /** "nN there are NUMBERS 1 to N (1 to 24 ..)" */
    private static void numbersOneToTwentyFour() {
        for (int n = 0; n <= 99; n++) {
            fault("n" + n + ";", n >= 1 && n <= 24 ? NONE : 0);
        }
        for (int n = 1; n <= 24; n++) {
            TakenNumbers port = Given.laid("n" + n + ";p1;");
            CHECK.due("numbers by n" + n, port.count(0), n);
            CHECK.due("the last by n" + n, port.number(n, 0), 1);
            CHECK.due("none beyond by n" + n, port.number(n + 1, 0), BAD);
        }
    }

    /** "12 without" */
    private static void twelveNumbersWithout() {
        fault("c12,1;", NONE);
        fault("c13,1;", 0);
        fault("p1;h12,0;", NONE);
        fault("p1;h13,0;", 3);
        CHECK.due("numbers without n", Given.laid("p1;").count(0), 12);
        CHECK.due("the 12th", Given.laid("p1;").number(12, 0), 1);
        CHECK.due("the 13th", Given.laid("p1;").number(13, 0), BAD);
    }

    /** "no other ITEM ahead of it but n" */
    private static void noOtherItemAheadOfN() {
        fault("n5;n5;", NONE);
        fault("n5;n5;n5;p1;", NONE);
        fault("c1,1;n5;", 5);
        fault("p1;n5;", 3);
        fault("n5;p1;h1,0;n5;", 11);
        fault("k1,1,1;n5;", 7);
        fault("n5;c1,1;n5;", 8);
        fault("n5;p1;n5;", 6);
        fault("n5;k1,1,1;n5;", 10);
        fault("n5;p1;n5;n5;", 6);
        fault("p1;n12;", 3);
    }

    /** Of several n the last one tells: "there are NUMBERS 1 to N". */
    private static void lastN() {
        fault("n24;n5;c5,1;", NONE);
        fault("n24;n5;c6,1;", 7);
        fault("n5;n24;c24,1;", NONE);
        CHECK.due("n24, then n5", Given.laid("n24;n5;p1;").count(0), 5);
        CHECK.due("n5, then n24", Given.laid("n5;n24;p1;").count(0), 24);
    }

    /** "cX,C NUMBER X": such as there are. */
    private static void numberOfACost() {
        for (int n = 1; n <= 24; n++) {
            for (int x = 0; x <= 26; x++) {
                String head = "n" + n + ";";
                fault(head + "c" + x + ",1;", x >= 1 && x <= n ? NONE : head.length());
            }
        }
        fault("n24;c99,1;", 4);
    }

    /** "costs C (0 to 9) to say" */
    private static void costNoughtToNine() {
        for (int c = 0; c <= 99; c++) {
            fault("c1," + c + ";", c <= 9 ? NONE : 0);
        }
        for (int c = 0; c <= 9; c++) {
            CHECK.due("a cost of " + c, Given.laid("p1;c12," + c + ";").number(12, 0), c);
        }
    }

    /** "(1 without; the last one of each)" */
    private static void lastCost() {
        TakenNumbers port = Given.laid("n3;c1,5;c3,9;c1,0;p1;c3,2;");
        CHECK.due("the last of two", port.number(1, 0), 0);
        CHECK.due("without", port.number(2, 0), 1);
        CHECK.due("the last, behind another item", port.number(3, 0), 2);
    }

    /** "pA a PERSON who has to say A (1 to 99)" */
    private static void amountOneToNinetyNine() {
        for (int a = 0; a <= 99; a++) {
            fault("p" + a + ";", a >= 1 ? NONE : 0);
        }
        fault("p100;", 0);
        fault("p00;", 0);
        CHECK.due("one who has to say 1", Given.laid("p1;").person(0, 0), 1);
        CHECK.due("one who has to say 99", Given.laid("p99;").person(0, 0), 99);
    }

    /** "6 at most, 0, 1, .." */
    private static void sixPersonsAtMost() {
        fault("p1;p2;p3;p4;p5;", NONE);
        fault("p1;p2;p3;p4;p5;p6;", NONE);
        fault("p1;p2;p3;p4;p5;p6;p7;", 18);
        fault("n9;p1;p2;c1,1;p3;p4;p5;k1,1,1;p6;h1,5;p7;", 38);
        TakenNumbers port = Given.laid("p11;p12;p13;p14;p15;p16;");
        for (int i = 0; i < 6; i++) {
            CHECK.due("person " + i + " of six", port.person(i, 0), 11 + i);
        }
        CHECK.due("six persons", port.count(1), 6);
        CHECK.due("no seventh", port.person(6, 0), BAD);
    }

    /** "hX,P NUMBER X": such as there are. */
    private static void numberThatIsOfSomebody() {
        for (int n = 1; n <= 24; n++) {
            for (int x = 0; x <= 26; x++) {
                String head = "n" + n + ";p1;";
                fault(head + "h" + x + ",0;", x >= 1 && x <= n ? NONE : head.length());
            }
        }
        TakenNumbers port = Given.laid("n24;p1;p2;h1,1;h24,1;");
        CHECK.due("whose 1 is", port.number(1, 1), 1);
        CHECK.due("whose 24 is", port.number(24, 1), 1);
        CHECK.due("whose 23 is", port.number(23, 1), NONE);
    }

    /** "of PERSON P (told ahead)" */
    private static void personToldAhead() {
        String head = "";
        for (int persons = 0; persons <= 6; persons++) {
            for (int p = 0; p <= 8; p++) {
                fault(head + "h1," + p + ";", p < persons ? NONE : head.length());
            }
            fault(head + "h1,99;", head.length());
            head += "p9;";
        }
        fault("h1,0;p1;", 0);
        fault("p1;h1,1;p1;", 3);
        fault("p1;p1;h1,1;", NONE);
    }

    /** "the last one of each" */
    private static void lastOwner() {
        TakenNumbers port = Given.laid("n4;p1;p2;p3;h1,0;h2,2;h1,2;h1,1;h3,0;");
        CHECK.due("the last of three", port.number(1, 1), 1);
        CHECK.due("the only one", port.number(2, 1), 2);
        CHECK.due("of 0", port.number(3, 1), 0);
        CHECK.due("nobody's", port.number(4, 1), NONE);
        CHECK.due("0 may not use what was told as his first", port.person(0, 2), 4 + 8);
        CHECK.due("1 may use it", port.person(1, 2), 1 + 8);
        CHECK.due("2 may not", port.person(2, 2), 2 + 8);
    }

    /** "the LAW is of KIND K (0 WHOLE, 1 SUMS, 2 SIGNS, 3 HALVES)" */
    private static void kindNoughtToThree() {
        for (int kind = 0; kind <= 99; kind++) {
            fault("k" + kind + ",1,1;", kind <= 3 ? NONE : 0);
        }
        for (int kind = 0; kind <= 3; kind++) {
            CHECK.due("kind " + kind, Given.laid("p1;k" + kind + ",1,1;").law(0), kind);
        }
    }

    /** "LESS costs L (0 to 9) more, HALF H (0 to 9) more" */
    private static void costOfLessAndHalf() {
        for (int cost = 0; cost <= 99; cost++) {
            fault("k1," + cost + ",1;", cost <= 9 ? NONE : 0);
            fault("k1,1," + cost + ";", cost <= 9 ? NONE : 0);
        }
        for (int cost = 0; cost <= 9; cost++) {
            CHECK.due("less costs " + cost, Given.laid("p1;k1," + cost + ",5;").law(1), cost);
            CHECK.due("half costs " + cost, Given.laid("p1;k1,5," + cost + ";").law(2), cost);
        }
    }

    /** "(1, 1, 2 without ..)" */
    private static void lawWithout() {
        TakenNumbers port = Given.laid("p1;");
        CHECK.due("kind without", port.law(0), 1);
        CHECK.due("less without", port.law(1), 1);
        CHECK.due("half without", port.law(2), 2);
    }

    /** ".. the last one)" */
    private static void lastLaw() {
        TakenNumbers port = Given.laid("k3,9,8;p1;k0,7,6;");
        CHECK.due("the last kind", port.law(0), 0);
        CHECK.due("the last less", port.law(1), 7);
        CHECK.due("the last half", port.law(2), 6);
    }

    /** "the place of the first letter of the first ITEM that is not so" */
    private static void firstItemThatIsNotSo() {
        fault("x", 0);
        fault("n1;x", 3);
        fault("n0;x", 0);
        fault("n1;n0;n0;", 3);
        fault("n1;c1,99;p0;", 3);
        fault("n1;c1,1;p0;h9,9;", 8);
        fault("n1;c1,1;p1;h1,1;k9,1,1;", 11);
        fault("n1;c1,1;p1;h1,0;k1,1,10;", 16);
        fault("n1;c1,1;p1;h1,0;k1,1,9;", NONE);
    }

    private static void faultAtTheLastLetter() {
        fault("n5;".repeat(66) + "n", 198);
        fault("n5;".repeat(65) + "n05;p", 199);
        fault("n5;".repeat(65) + "n05;;", 199);
    }

    /** "letters (200 at most)": the 200th is read. */
    private static void textOfTwoHundredLetters() {
        String full = "n5;".repeat(63) + "p2;c1,9;p3;";
        CHECK.due("letters", full.length(), 200);
        fault(full, NONE);
        TakenNumbers port = Given.laid(full);
        CHECK.due("the 200th letter ends a person", port.count(1), 2);
        CHECK.due("who has to say 3", port.person(1, 0), 3);
        CHECK.due("no letter more", port.write('p'), FULL);
        CHECK.due("laid once more", port.lay(), 5);
    }

    // ---- promise 5

    /** "LAID is a TEXT without FAULT" */
    private static void layNeedsNoFault() {
        String[] faulty = {"p1;x", "p1;p0;", "p1", "n25;p1;", "p1;n5;", "p1;;", " p1;", "p1; "};
        for (String text : faulty) {
            Refused.Calls busy = port -> {
                Given.busyDay(port);
                Given.rewrite(port, text);
            };
            new Refused(CHECK, busy).due("lay of '" + text + "'", NO, TakenNumbers::lay);
        }
    }

    /** "of a PERSON at least" */
    private static void layNeedsAPerson() {
        String[] empty = {"", "n5;", "n5;c1,1;k1,1,1;"};
        for (String text : empty) {
            Refused.Calls busy = port -> {
                Given.busyDay(port);
                Given.rewrite(port, text);
            };
            new Refused(CHECK, busy).due("lay of '" + text + "'", NO, TakenNumbers::lay);
        }
        TakenNumbers port = new TakenNumbers();
        Given.rewrite(port, "n5;p1;");
        CHECK.due("lay with a person", port.lay(), 5);
        CHECK.due("one person", port.count(1), 1);
    }

    /** "how many NUMBERS" */
    private static void layTellsNumbers() {
        String[] texts = {"n1;p1;", "n24;p1;", "p1;", "n24;n1;p1;"};
        int[] numbers = {1, 24, 12, 1};
        for (int k = 0; k < texts.length; k++) {
            TakenNumbers port = new TakenNumbers();
            Given.rewrite(port, texts[k]);
            CHECK.due("lay of " + texts[k], port.lay(), numbers[k]);
        }
    }

    /** "all free, no FEAST, no WORDS, no BOOK, nothing UNDONE, KEPT" */
    private static void layMakesAllNew() {
        String[] texts = {"n9;p4;p4;p7;p12;c7,3;h5,0;", "n24;p1;p2;p3;p4;p5;p6;k3,9,9;h24,5;", "n1;p1;"};
        for (String text : texts) {
            TakenNumbers port = new TakenNumbers();
            Given.busyDay(port);
            port.dusk(true);
            port.speak(0);
            port.lend(5, 1);
            CHECK.due("a feast", port.count(5), 1);
            Given.rewrite(port, text);
            port.lay();
            String differs = Seen.of(port).differsFrom(Seen.of(Given.laid(text)));
            CHECK.that("laid as on a new object: " + differs, differs.isEmpty());
            CHECK.due("nothing to undo", port.undo(), NO);
            CHECK.due("nothing kept", port.back(), NO);
            CHECK.due("no words", port.hush(), 0);
            CHECK.due("no book", port.close(), 0);
        }
    }

    /** Each text is laid as if there had been no other: whose the NUMBERS are, costs, PERSONS, the LAW. */
    private static void layForgetsOtherTexts() {
        String[] texts = {"n6;p5;p5;h1,0;h6,1;h5,0;c1,9;k3,9,8;", "n6;p5;p5;h5,0;c1,9;k1,0,0;", "n6;p5;p5;h5,0;c2,9;k1,0,0;", "n6;p5;p5;p5;",
            "n6;p5;", "n6;p5;p5;h5,0;"};
        TakenNumbers port = new TakenNumbers();
        for (String text : texts) {
            Given.rewrite(port, text);
            CHECK.due("lay of " + text, port.lay(), 6);
            TakenNumbers other = Given.laid(text);
            String differs = Seen.of(port).differsFrom(Seen.of(other));
            CHECK.that("laid behind others: " + differs, differs.isEmpty());
            int last = port.count(1) - 1;
            for (int what = 0; what <= 4; what++) {
                CHECK.due("best of what " + what + ", " + text, port.best(last, 5, what), other.best(last, 5, what));
            }
        }
    }

    /** 5 is 1 and 4 as 1 costs nothing, and 2 and 3 as soon as a text is laid by which it costs 9. */
    private static void layForgetsWhatWasFound() {
        TakenNumbers port = Given.laid("n6;p5;p5;h5,0;c1,0;");
        CHECK.due("by 1 and 4", port.best(1, 5, 2) * 100 + port.best(1, 5, 1), 901);
        Given.rewrite(port, "n6;p5;p5;h5,0;c1,9;");
        port.lay();
        CHECK.due("by 2 and 3", port.best(1, 5, 2) * 100 + port.best(1, 5, 1), 602);
        Given.rewrite(port, "n6;p5;p5;h5,0;c2,0;");
        port.lay();
        CHECK.due("by 2 and 3, for 1", port.best(1, 5, 2) * 100 + port.best(1, 5, 1), 601);
    }

    private static void faultLeavesWhatIsLaid() {
        TakenNumbers port = Given.laid("n3;p3;p3;c3,0;h2,0;k3,0,0;");
        TakenNumbers other = Given.laid("n3;p3;p3;c3,0;h2,0;k3,0,0;");
        for (String text : new String[] {"n9;p1;h1,0;", "n9;p1;c1,9;x", "p0;", "n24;k0,9,9;"}) {
            Given.rewrite(port, text);
            port.fault();
        }
        Given.rewrite(port, "n3;p3;p3;c3,0;h2,0;k3,0,0;");
        String differs = Seen.of(port).differsFrom(Seen.of(other));
        CHECK.that("fault leaves what is laid: " + differs, differs.isEmpty());
    }

    private static void layLeavesTheText() {
        TakenNumbers port = Given.laid("n5;p1;");
        CHECK.due("the text stays", port.count(10), 6);
        port.born();
        CHECK.due("laid once more", port.lay(), 5);
        CHECK.due("all free", port.count(2), 0);
        CHECK.due("more can be written behind it", port.write('p'), 7);
        CHECK.due("and then it is not so", port.lay(), NO);
    }

    // ---- promise 6

    /** "BAD: a number is none that is told (NUMBERS, PERSONS: such as there are ..)" */
    private static void numberOfThoseThereAre() {
        for (int n : new int[] {1, 9, 24}) {
            TakenNumbers port = Given.laid("n" + n + ";p1;");
            for (int x = -2; x <= 34; x++) {
                CHECK.due("number(" + x + ", 0) of " + n, port.number(x, 0), x >= 1 && x <= n ? 1 : BAD);
            }
            for (int far : FAR) {
                CHECK.due("number(" + far + ", 0)", port.number(far, 0), BAD);
                CHECK.due("number(" + (far + 1) + ", 1)", port.number(far + 1, 1), BAD);
            }
        }
    }

    /** "cost (what = 0), whose it is (1 ..), by whom it is TAKEN (2 ..), to whom it is LENT (3 ..)" */
    private static void numberWhat() {
        TakenNumbers port = Given.laid("n2;p1;p2;c2,9;h2,0;");
        port.lend(2, 1);
        port.speak(1);
        int[] answers = {BAD, BAD, 9, 0, 1, 1, BAD, BAD};
        for (int what = -2; what <= 5; what++) {
            CHECK.due("number(2, " + what + ")", port.number(2, what), answers[what + 2]);
        }
        for (int far : FAR) {
            CHECK.due("number(2, " + far + ")", port.number(2, far), BAD);
        }
        CHECK.due("number(3, 4)", port.number(3, 4), BAD);
    }

    /** "whose it is (1; NONE), by whom it is TAKEN (2; NONE ..), to whom it is LENT (3; NONE)" */
    private static void numberNone() {
        TakenNumbers port = Given.laid("n24;p1;p2;h24,1;");
        for (int x : new int[] {1, 23}) {
            for (int what = 1; what <= 3; what++) {
                CHECK.due("number(" + x + ", " + what + ")", port.number(x, what), NONE);
            }
        }
        CHECK.due("number(24, 1)", port.number(24, 1), 1);
        CHECK.due("number(24, 3)", port.number(24, 3), NONE);
    }

    /** "by whom it is TAKEN (2 ..; 7 for a birth)": the first PERSON, the last, a birth. */
    private static void numberTakenByEach() {
        TakenNumbers port = Given.laid("n24;p24;p5;p6;p7;p8;p23;k0,1,1;");
        port.born();
        port.speak(0);
        port.speak(5);
        CHECK.due("by a birth", port.number(1, 2), 7);
        CHECK.due("by the first", port.number(24, 2), 0);
        CHECK.due("by the last", port.number(23, 2), 5);
        CHECK.due("by nobody", port.number(22, 2), NONE);
        port.dusk(false);
        CHECK.due("free the next day", port.number(1, 2), NONE);
    }

    // ---- promise 7

    private static void personOfThoseThereAre() {
        String text = "n3;";
        for (int persons = 1; persons <= 6; persons++) {
            text += "p9;";
            TakenNumbers port = Given.laid(text);
            for (int i = -2; i <= 34; i++) {
                CHECK.due("person(" + i + ", 0) of " + persons, port.person(i, 0), i >= 0 && i < persons ? 9 : BAD);
            }
            for (int far : FAR) {
                CHECK.due("person(" + far + ", 0)", port.person(far, 0), BAD);
                CHECK.due("person(" + far + ", 2)", port.person(far, 2), BAD);
            }
        }
    }

    /** "what he has to say (what = 0), 1 if he has SAID it today (1), NUMBERS he MAY use, as bits (2)" */
    private static void personWhat() {
        TakenNumbers port = Given.laid("n2;p2;p5;");
        port.speak(0);
        int[] said = {BAD, BAD, 2, 1, 1, BAD, BAD};
        int[] not = {BAD, BAD, 5, 0, 1, BAD, BAD};
        for (int what = -2; what <= 4; what++) {
            CHECK.due("person(0, " + what + ")", port.person(0, what), said[what + 2]);
            CHECK.due("person(1, " + what + ")", port.person(1, what), not[what + 2]);
        }
        for (int far : FAR) {
            CHECK.due("person(0, " + far + ")", port.person(0, far), BAD);
        }
    }

    /** "NUMBERS he MAY use, as bits": all of 24, none, the first and the last alone. */
    private static void personMayUseNoneOrAll() {
        TakenNumbers port = Given.laid("n24;p1;p2;");
        CHECK.due("all of 24", port.person(1, 2), (1 << 24) - 1);
        for (int k = 1; k <= 24; k++) {
            port.born();
            CHECK.due("without 1 to " + k, port.person(1, 2), (1 << 24) - (1 << k));
        }
        port = Given.laid("n2;p1;p2;h1,0;h2,0;");
        CHECK.due("both are of 0", port.person(0, 2), 3);
        CHECK.due("none for 1", port.person(1, 2), 0);
        port.lend(2, 1);
        CHECK.due("lent to 1", port.person(1, 2), 2);
        CHECK.due("and still of 0", port.person(0, 2), 3);
    }

    // ---- promise 8

    /** "KIND (what = 0), L (1), H (2)" */
    private static void lawWhat() {
        TakenNumbers port = Given.laid("p1;k3,9,0;");
        int[] answers = {BAD, BAD, 3, 9, 0, BAD, BAD};
        for (int what = -2; what <= 4; what++) {
            CHECK.due("law(" + what + ")", port.law(what), answers[what + 2]);
        }
        for (int far : FAR) {
            CHECK.due("law(" + far + ")", port.law(far), BAD);
        }
    }

    /** "An object is used for at most 512 calls": the 512th is answered like each other. */
    private static void theLastCall() {
        TakenNumbers port = new TakenNumbers();
        for (int k = 1; k <= 510; k++) {
            port.dusk(k % 2 == 0);
        }
        CHECK.due("call 511", port.undo(), 7);
        CHECK.due("call 512", port.best(1, 5, 2), 9);
    }
}
