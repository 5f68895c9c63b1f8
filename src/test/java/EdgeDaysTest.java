/** The edges of promises 12 to 18: a method for each sentence that names one. */
public final class EdgeDaysTest {
    private static final Check CHECK = new Check();
    private static final int NONE = TakenNumbers.NONE, NO = TakenNumbers.NO, BAD = TakenNumbers.BAD;
    private static final int[] FAR = {Integer.MIN_VALUE, Integer.MIN_VALUE + 1, -65536, -256, -32, 32, 256, 65536, Integer.MAX_VALUE};

    public static void main(String[] args) {
        sayOfPersonsThereAre();
        sayNoWords();
        sayNoSaying();
        sayAnotherAmount();
        sayWhatHeMayNotUse();
        sayOnceADay();
        sayTheLeastAndTheMost();
        sayTellsThePrice();
        speakOfPersonsThereAre();
        speakOnceADay();
        speakNone();
        speakTellsHowMany();
        lendOfThoseThereAre();
        lendNobodys();
        lendHisOwn();
        lendTaken();
        lendLent();
        lendTellsHowMany();
        lendForToday();
        bornUpToTheLast();
        bornWhatIsTaken();
        bornWhosever();
        bornNotOnAFeast();
        duskOfNoneAndAll();
        duskEndsTheDay();
        duskFeastOrNot();
        undoNothing();
        undoTheLastEight();
        undoEachOfFive();
        undoNothingElse();
        bestOfThoseThereAre();
        bestAmount();
        bestWhat();
        bestNone();
        badAheadOfNone();
        bestOfFewest();
        bestOfCheapest();
        bestByTheUseOfTheFirst();
        bestByTheUseOfTheNext();
        bestOfTheLastNumbers();
        bestOfTheHighestPrice();
        bestBeyondTheAmounts();
        bestOneBehindTheOther();
        refusedChangesNothing();
        CHECK.end();
    }

    // ---- promise 12

    private static void sayOfPersonsThereAre() {
        for (int i = -2; i <= 8; i++) {
            TakenNumbers port = Given.laid("n3;p3;p3;p3;");
            port.tell(3, 1);
            CHECK.due("say(" + i + ") of three", port.say(i), i >= 0 && i < 3 ? 1 : BAD);
        }
        for (int far : FAR) {
            TakenNumbers port = Given.laid("n3;p3;p3;p3;");
            port.tell(3, 1);
            CHECK.due("say(" + far + ")", port.say(far), BAD);
        }
        CHECK.due("say(3) without words", Given.laid("n3;p3;p3;p3;").say(3), BAD);
        TakenNumbers six = Given.laid("n3;p3;p3;p3;p3;p3;p3;");
        six.tell(3, 1);
        CHECK.due("say(6) of six", six.say(6), BAD);
        CHECK.due("say(5) of six", six.say(5), 1);
    }

    private static void sayNoWords() {
        for (int kind = 0; kind <= 3; kind++) {
            CHECK.due("say no words by " + kind, Given.laid("n3;p3;k" + kind + ",1,1;").say(0), NO);
        }
    }

    private static int said(String text, int... words) {
        TakenNumbers port = Given.laid(text);
        Given.retell(port, words);
        return port.say(0);
    }

    /** "NO: no SAYING": of the right amount, but not by the LAW. */
    private static void sayNoSaying() {
        int[][] told = {{7, 1}, {3, 1, 4, 1}, {9, 1, 2, 2}, {14, 3}, {5, 1, 4, 3}};
        int[][] due = {{1, NO, NO, NO, NO}, {1, 2, NO, NO, NO}, {1, 2, 3, NO, NO}, {1, 2, 3, 3, 4}};
        for (int kind = 0; kind <= 3; kind++) {
            for (int k = 0; k < told.length; k++) {
                CHECK.due("words " + k + " by " + kind, said("n14;p7;k" + kind + ",1,2;", told[k]), due[kind][k]);
            }
        }
    }

    /** "of another amount": one less, one more, as much below nothing, nothing. */
    private static void sayAnotherAmount() {
        String text = "n14;p7;k3,0,0;";
        CHECK.due("6", said(text, 6, 1), NO);
        CHECK.due("7", said(text, 7, 1), 1);
        CHECK.due("8", said(text, 8, 1), NO);
        CHECK.due("less 7", said(text, 7, 2), NO);
        CHECK.due("half of 12", said(text, 12, 3), NO);
        CHECK.due("half of 14", said(text, 14, 3), 1);
        CHECK.due("1 and 6", said(text, 1, 1, 6, 1), 2);
        CHECK.due("8 less 1", said(text, 8, 1, 1, 2), 2);
        CHECK.due("8 less 2", said(text, 8, 1, 2, 2), NO);
        CHECK.due("1 and 2 less 3", said(text, 1, 1, 2, 1, 3, 2), NO);
    }

    /** "NUMBERS that he MAY not use": one of them is enough. */
    private static void sayWhatHeMayNotUse() {
        TakenNumbers port = Given.laid("n9;p7;p7;p1;h3,1;h5,0;k1,1,1;");
        Given.retell(port, 3, 1, 4, 1);
        CHECK.due("3 is of 1", port.say(0), NO);
        port.lend(3, 2);
        CHECK.due("3 is lent to 2", port.say(0), NO);
        port.undo();
        port.lend(3, 0);
        CHECK.due("3 is lent to 0", port.say(0), 2);
        port.undo();
        CHECK.due("3 is of 1, though lent", port.say(1), 2);
        port.undo();
        Given.retell(port, 1, 1, 6, 1);
        port.speak(2);
        CHECK.due("1 is taken by 2", port.say(0), NO);
        port.undo();
        port.born();
        CHECK.due("1 is taken by a birth", port.say(0), NO);
        port.undo();
        CHECK.due("1 is free again", port.say(0), 2);
        port.undo();
        Given.retell(port, 5, 1, 2, 1);
        CHECK.due("5 is his own", port.say(0), 2);
        CHECK.due("which 1 may not use, taken or not", port.say(1), NO);
        port.dusk(false);
        CHECK.due("nor the next day", port.say(1), NO);
    }

    /** "he has SAID it", by the words or by BEST; "once a day". */
    private static void sayOnceADay() {
        TakenNumbers port = Given.laid("n9;p7;p2;");
        Given.retell(port, 7, 1);
        CHECK.due("first", port.say(0), 1);
        Given.retell(port, 3, 1, 4, 1);
        CHECK.due("second", port.say(0), NO);
        port.dusk(false);
        CHECK.due("the next day", port.say(0), 2);
        port.dusk(true);
        CHECK.due("by best", port.speak(0), 1);
        CHECK.due("and then by the words", port.say(0), NO);
        port.undo();
        CHECK.due("undone, by the words", port.say(0), 2);
        CHECK.due("and then by best", port.speak(0), NO);
    }

    private static void sayTheLeastAndTheMost() {
        CHECK.due("1", said("n24;p1;k1,1,1;", 1, 1), 1);
        CHECK.due("99", said("n24;p99;k1,1,1;", 24, 1, 23, 1, 22, 1, 21, 1, 9, 1), 5);
        CHECK.due("98 for 99", said("n24;p99;k1,1,1;", 24, 1, 23, 1, 22, 1, 21, 1, 8, 1), NO);
        CHECK.due("100 for 99", said("n24;p99;k1,1,1;", 24, 1, 23, 1, 22, 1, 21, 1, 10, 1), NO);
        CHECK.due("ten words", said("n10;p55;k1,1,1;", 1, 1, 2, 1, 3, 1, 4, 1, 5, 1, 6, 1, 7, 1, 8, 1, 9, 1, 10, 1), 10);
        TakenNumbers port = Given.laid("n10;p55;k1,1,1;");
        Given.retell(port, 1, 1, 2, 1, 3, 1, 4, 1, 5, 1, 6, 1, 7, 1, 8, 1, 9, 1, 10, 1);
        port.say(0);
        CHECK.due("all are taken", port.count(2), 10);
        CHECK.due("none is left", port.person(0, 2), 0);
    }

    private static void sayTellsThePrice() {
        CHECK.due("for nothing", said("n2;p2;c2,0;k1,1,1;", 2, 1), 0);
        CHECK.due("by less and half, for nothing", said("n4;p1;c1,0;c4,0;k3,0,0;", 4, 3, 1, 2), 0);
        CHECK.due("9 and 9, by less 9 more", said("n9;p8;c1,9;c9,9;k3,9,9;", 9, 1, 1, 2), 27);
        CHECK.due("9, by half 9 more", said("n8;p4;c8,9;k3,9,9;", 8, 3), 18);
    }

    // ---- promise 13

    private static void speakOfPersonsThereAre() {
        for (int i = -2; i <= 8; i++) {
            CHECK.due("speak(" + i + ") of three", Given.laid("n3;p3;p3;p3;").speak(i), i >= 0 && i < 3 ? 1 : BAD);
        }
        for (int far : FAR) {
            CHECK.due("speak(" + far + ")", Given.laid("n3;p3;p3;p3;").speak(far), BAD);
        }
        CHECK.due("speak(5) of six", Given.laid("n3;p3;p3;p3;p3;p3;p3;").speak(5), 1);
        CHECK.due("speak(6) of six", Given.laid("n3;p3;p3;p3;p3;p3;p3;").speak(6), BAD);
    }

    /** "NO: he has": ahead of NONE, if there is no BEST any more. */
    private static void speakOnceADay() {
        TakenNumbers port = Given.laid("n1;p1;p1;");
        CHECK.due("first", port.speak(0), 1);
        CHECK.due("second, and nothing is left", port.speak(0), NO);
        CHECK.due("another, and nothing is left", port.speak(1), NONE);
        port.dusk(false);
        CHECK.due("the next day", port.speak(0), 1);
        TakenNumbers rich = Given.laid("n9;p1;");
        rich.speak(0);
        CHECK.due("second, though he could", rich.speak(0), NO);
    }

    private static void speakNone() {
        CHECK.due("more than all", Given.laid("n5;p16;").speak(0), NONE);
        CHECK.due("all", Given.laid("n5;p15;").speak(0), 5);
        CHECK.due("all but one that is of another", Given.laid("n5;p15;p1;h1,1;").speak(0), NONE);
        CHECK.due("beyond the last by whole", Given.laid("n24;p25;k0,1,1;").speak(0), NONE);
        CHECK.due("the last by whole", Given.laid("n24;p24;k0,1,1;").speak(0), 1);
        CHECK.due("99 of 13 numbers", Given.laid("n13;p99;").speak(0), NONE);
        TakenNumbers port = Given.laid("n2;p1;");
        port.born();
        port.born();
        CHECK.due("all are taken", port.speak(0), NONE);
        CHECK.due("he has not said it", port.person(0, 1), 0);
    }

    /** "of how many NUMBERS": WORDS are ten at most, what is said by BEST may be of more. */
    private static void speakTellsHowMany() {
        TakenNumbers port = Given.laid("n14;p99;");
        CHECK.due("99 by 4 to 14", port.speak(0), 11);
        CHECK.due("eleven are taken", port.count(2), 11);
        CHECK.due("1 to 3 are left", port.person(0, 2), 7);
    }

    // ---- promise 14

    private static void lendOfThoseThereAre() {
        for (int x = -1; x <= 26; x++) {
            TakenNumbers port = Given.laid("n24;p1;p1;h1,0;h24,0;");
            CHECK.due("lend(" + x + ", 1)", port.lend(x, 1), x == 1 || x == 24 ? 1 : x < 1 || x > 24 ? BAD : NO);
        }
        for (int i = -1; i <= 7; i++) {
            TakenNumbers port = Given.laid("n2;p1;p1;p1;h1,1;");
            CHECK.due("lend(1, " + i + ") of three", port.lend(1, i), i == 0 || i == 2 ? 1 : i == 1 ? NO : BAD);
            CHECK.due("lend(2, " + i + "), nobody's", port.lend(2, i), i >= 0 && i <= 2 ? NO : BAD);
            CHECK.due("lend(3, " + i + ")", port.lend(3, i), BAD);
        }
        for (int far : FAR) {
            TakenNumbers port = Given.laid("n2;p1;p1;p1;h1,1;");
            CHECK.due("lend(" + far + ", 0)", port.lend(far, 0), BAD);
            CHECK.due("lend(" + (far + 1) + ", 0)", port.lend(far + 1, 0), BAD);
            CHECK.due("lend(1, " + far + ")", port.lend(1, far), BAD);
        }
        TakenNumbers six = Given.laid("n2;p1;p1;p1;p1;p1;p1;h1,0;h2,5;");
        CHECK.due("lend(1, 6) of six", six.lend(1, 6), BAD);
        CHECK.due("lend(1, 5) of six", six.lend(1, 5), 1);
        CHECK.due("lend(2, 0) by the last", six.lend(2, 0), 2);
    }

    /** "NO: it is nobody's" */
    private static void lendNobodys() {
        TakenNumbers port = Given.laid("n3;p1;p1;h2,0;");
        CHECK.due("lend(1, 1)", port.lend(1, 1), NO);
        CHECK.due("lend(3, 0)", port.lend(3, 0), NO);
        CHECK.due("lend(2, 1)", port.lend(2, 1), 1);
    }

    /** "his own" */
    private static void lendHisOwn() {
        TakenNumbers port = Given.laid("n3;p1;p1;h1,0;h2,1;");
        CHECK.due("lend(1, 0)", port.lend(1, 0), NO);
        CHECK.due("lend(2, 1)", port.lend(2, 1), NO);
        CHECK.due("lend(1, 1)", port.lend(1, 1), 1);
        CHECK.due("lend(2, 0)", port.lend(2, 0), 2);
        CHECK.due("his own, lent", port.lend(1, 0), NO);
    }

    /** "TAKEN": by whose it is, by a birth, by whom it was lent to. */
    private static void lendTaken() {
        TakenNumbers port = Given.laid("n3;p3;p2;h1,0;h2,0;h3,0;k0,1,1;");
        port.speak(0);
        CHECK.due("3 is taken by whose it is", port.lend(3, 1), NO);
        port.undo();
        CHECK.due("3 is free again", port.lend(3, 1), 1);
        port.born();
        CHECK.due("1 is taken by a birth", port.lend(1, 1), NO);
        CHECK.due("2 is free", port.lend(2, 1), 2);
        port.speak(1);
        CHECK.due("2 is taken by whom it was lent to", port.lend(2, 1), NO);
        TakenNumbers late = Given.laid("n2;p1;p1;h2,0;");
        late.speak(1);
        CHECK.due("lent to one who has said it", late.lend(2, 1), 1);
    }

    /** "LENT": to another, to him. */
    private static void lendLent() {
        TakenNumbers port = Given.laid("n3;p1;p1;p1;h3,0;");
        CHECK.due("first", port.lend(3, 1), 1);
        CHECK.due("to him once more", port.lend(3, 1), NO);
        CHECK.due("to another", port.lend(3, 2), NO);
        port.undo();
        CHECK.due("undone, to another", port.lend(3, 2), 1);
        CHECK.due("to whom", port.number(3, 3), 2);
    }

    /** "how many are": of all NUMBERS, to all PERSONS. */
    private static void lendTellsHowMany() {
        StringBuilder text = new StringBuilder("n24;p1;p1;p1;");
        for (int x = 1; x <= 24; x++) {
            text.append("h").append(x).append(",").append(x % 2).append(";");
        }
        TakenNumbers port = Given.laid(text.toString());
        for (int x = 1; x <= 24; x++) {
            CHECK.due("lend(" + x + ", ..)", port.lend(x, x % 3 == 0 ? 2 : 1 - x % 2), x);
        }
    }

    /** "for today" */
    private static void lendForToday() {
        TakenNumbers port = Given.laid("n3;p1;p1;p1;h2,0;h3,0;");
        port.lend(3, 1);
        port.lend(2, 1);
        port.dusk(false);
        CHECK.due("nobody's the next day", port.number(3, 3), NONE);
        CHECK.due("he may not use it", port.person(1, 2), 1);
        CHECK.due("whose it is stays", port.number(3, 1), 0);
        CHECK.due("lent again", port.lend(3, 2), 1);
        TakenNumbers all = Given.laid("n6;p1;p1;p1;p1;p1;p1;h1,5;h2,0;h3,0;h4,0;h5,0;h6,0;");
        for (int i = 0; i < 6; i++) {
            all.lend(i + 1, i);
        }
        all.dusk(false);
        for (int i = 0; i < 6; i++) {
            CHECK.due("lent to " + i + " no more", all.number(i + 1, 3), NONE);
        }
    }

    // ---- promise 15

    /** "A birth TAKES NUMBER k, if it is the k-th today": as far as there are NUMBERS. */
    private static void bornUpToTheLast() {
        for (int n : new int[] {1, 2, 12, 24}) {
            TakenNumbers port = Given.laid("n" + n + ";p1;");
            for (int k = 1; k <= n; k++) {
                CHECK.due("birth " + k + " of " + n, port.born(), k);
                CHECK.due("takes it", port.number(k, 2), 7);
                CHECK.due("births", port.count(4), k);
            }
            CHECK.due("birth beyond " + n, port.born(), NO);
            CHECK.due("births stay", port.count(4), n);
            CHECK.due("so does what can be undone", port.count(8), Math.min(n, 8));
            port.undo();
            CHECK.due("the last once more", port.born(), n);
        }
    }

    /** "and nobody has TAKEN that": the next one is not tried. */
    private static void bornWhatIsTaken() {
        TakenNumbers port = Given.laid("n4;p2;p4;k0,1,1;");
        port.speak(0);
        port.speak(1);
        CHECK.due("1 is free", port.born(), 1);
        CHECK.due("2 is taken", port.born(), NO);
        CHECK.due("once more", port.born(), NO);
        CHECK.due("3 is not taken for it", port.number(3, 2), NONE);
        CHECK.due("one birth", port.count(4), 1);
        port.dusk(false);
        CHECK.due("the next day", port.born(), 1);
        CHECK.due("and a second", port.born(), 2);
    }

    /** "(whosever it is)" */
    private static void bornWhosever() {
        TakenNumbers port = Given.laid("n3;p1;p2;h1,0;h2,1;");
        port.lend(2, 0);
        CHECK.due("1 is of 0", port.born(), 1);
        CHECK.due("2 is lent to 0", port.born(), 2);
        CHECK.due("0 may use 3 alone", port.person(0, 2), 4);
        CHECK.due("whose it is stays", port.number(1, 1), 0);
    }

    /** "not on a FEAST" */
    private static void bornNotOnAFeast() {
        TakenNumbers port = Given.laid("n3;p1;");
        CHECK.due("the first day is none", port.born(), 1);
        port.dusk(true);
        CHECK.due("on a feast", port.born(), NO);
        CHECK.due("no births", port.count(4), 0);
        CHECK.due("nothing is taken", port.count(2), 0);
        CHECK.due("a person speaks on a feast", port.speak(0), 1);
        port.dusk(true);
        CHECK.due("on the second feast", port.born(), NO);
        port.dusk(false);
        CHECK.due("behind it", port.born(), 1);
        port.undo();
        port.undo();
        CHECK.due("on the feast that is again", port.born(), NO);
    }

    // ---- promise 16

    /** "how many NUMBERS were TAKEN": by births and by all who SAID; none; all. */
    private static void duskOfNoneAndAll() {
        TakenNumbers port = Given.laid("n24;p99;p1;");
        CHECK.due("none", port.dusk(false), 0);
        for (int k = 1; k <= 24; k++) {
            port.born();
        }
        CHECK.due("all of 24", port.dusk(true), 24);
        CHECK.due("none on the feast", port.dusk(false), 0);
        port.born();
        CHECK.due("five by 0", port.speak(0), 5);
        CHECK.due("1 and five", port.dusk(false), 6);
    }

    /** "all NUMBERS are free again, nobody has SAID or been LENT anything, no births were" */
    private static void duskEndsTheDay() {
        for (boolean feast : new boolean[] {false, true}) {
            TakenNumbers port = Given.laid("n9;p3;p4;h9,0;");
            Seen before = Seen.of(port);
            port.born();
            port.lend(9, 1);
            port.speak(0);
            port.speak(1);
            CHECK.due("taken", port.dusk(feast), 3);
            CHECK.due("taken the next day", port.count(2), 0);
            CHECK.due("said", port.count(3), 0);
            CHECK.due("births", port.count(4), 0);
            CHECK.due("a feast or not", port.count(5), feast ? 1 : 0);
            CHECK.due("lent", port.number(9, 3), NONE);
            for (int k = 4; k >= 0; k--) {
                port.undo();
            }
            String differs = Seen.of(port).differsFrom(before);
            CHECK.that("all undone: " + differs, differs.isEmpty());
        }
    }

    /** "it is a FEAST the next day or not" */
    private static void duskFeastOrNot() {
        TakenNumbers port = new TakenNumbers();
        boolean[] feasts = {true, true, false, false, true, false};
        for (boolean feast : feasts) {
            port.dusk(feast);
            CHECK.due("count(5)", port.count(5), feast ? 1 : 0);
        }
    }

    // ---- promise 17

    private static void undoNothing() {
        TakenNumbers port = new TakenNumbers();
        CHECK.due("new", port.undo(), NO);
        port.dusk(true);
        CHECK.due("the only one", port.undo(), 0);
        CHECK.due("no more", port.undo(), NO);
        CHECK.due("it is as at first", port.count(5), 0);
        port.keep();
        port.dusk(true);
        port.back();
        CHECK.due("brought back", port.undo(), NO);
        port.dusk(true);
        Given.rewrite(port, "p1;");
        port.lay();
        CHECK.due("laid", port.undo(), NO);
    }

    /** "(the last 8 can be)" */
    private static void undoTheLastEight() {
        for (int many = 0; many <= 11; many++) {
            TakenNumbers port = Given.laid("n24;p1;");
            for (int k = 1; k <= many; k++) {
                port.born();
                CHECK.due("can be undone with " + k, port.count(8), Math.min(k, 8));
            }
            int can = Math.min(many, 8);
            for (int left = can - 1; left >= 0; left--) {
                CHECK.due("undo() of " + many, port.undo(), left);
                CHECK.due("births then", port.count(4), many - can + left);
            }
            CHECK.due("undo() once more", port.undo(), NO);
            CHECK.due("births stay", port.count(4), many - can);
            CHECK.due("the next birth", port.born(), many - can + 1);
            CHECK.due("can be undone", port.undo(), 0);
        }
    }

    /** "the latest say(), speak(), lend(), born(), dusk()" */
    private static void undoEachOfFive() {
        Refused.Call[] calls = {port -> port.say(2), port -> port.speak(1), port -> port.lend(5, 3), TakenNumbers::born,
            port -> port.dusk(false), port -> port.dusk(true)};
        for (Refused.Call call : calls) {
            TakenNumbers port = new TakenNumbers();
            port.lend(5, 2);
            port.undo();
            port.speak(0);
            Given.retell(port, 7, 1);
            Seen before = Seen.of(port);
            CHECK.that("the call is not refused", call.of(port) >= 0);
            CHECK.due("two can be undone", port.count(8), 2);
            CHECK.due("undo()", port.undo(), 1);
            String differs = Seen.of(port).differsFrom(before);
            CHECK.that("all is as before: " + differs, differs.isEmpty());
        }
    }

    /** No other call is undone, and none that is refused. */
    private static void undoNothingElse() {
        Refused.Call[] calls = {port -> port.write('n'), TakenNumbers::wipe, port -> port.tell(9, 1), TakenNumbers::hush,
            port -> port.enter(1), TakenNumbers::close, TakenNumbers::keep, TakenNumbers::stuck, port -> port.order(-1),
            port -> port.deny(1, 0), TakenNumbers::guard, TakenNumbers::changed, port -> port.corner(1, 0),
            port -> port.year(1, 1, 0), port -> port.speak(0), port -> port.say(1), port -> port.lend(1, 1)};
        for (Refused.Call call : calls) {
            TakenNumbers port = new TakenNumbers();
            port.dusk(true);
            port.dusk(false);
            port.speak(0);
            call.of(port);
            CHECK.due("three can be undone", port.count(8), 3);
            CHECK.due("undo()", port.undo() * 10 + port.count(3), 20);
            CHECK.due("undo()", port.undo() * 10 + port.count(5), 11);
        }
    }

    // ---- promise 18

    private static void bestOfThoseThereAre() {
        TakenNumbers port = Given.laid("n3;p3;p3;p3;");
        for (int i = -2; i <= 8; i++) {
            CHECK.due("best(" + i + ", 1, 0) of three", port.best(i, 1, 0), i >= 0 && i < 3 ? 1 : BAD);
        }
        for (int far : FAR) {
            CHECK.due("best(" + far + ", 1, 0)", port.best(far, 1, 0), BAD);
        }
        TakenNumbers six = Given.laid("n3;p3;p3;p3;p3;p3;p3;");
        CHECK.due("best(5, 1, 0) of six", six.best(5, 1, 0), 1);
        CHECK.due("best(6, 1, 0) of six", six.best(6, 1, 0), BAD);
    }

    /** "for an amount (1 to 99)" */
    private static void bestAmount() {
        for (int kind = 1; kind <= 3; kind++) {
            TakenNumbers port = Given.laid("n24;p1;k" + kind + ",1,1;");
            CHECK.due("best(0, -1, 0)", port.best(0, -1, 0), BAD);
            CHECK.due("best(0, 0, 0)", port.best(0, 0, 0), BAD);
            CHECK.due("best(0, 1, 0)", port.best(0, 1, 0), 1);
            CHECK.due("best(0, 98, 0)", port.best(0, 98, 0), 5);
            CHECK.due("best(0, 99, 0)", port.best(0, 99, 0), 5);
            CHECK.due("best(0, 100, 0)", port.best(0, 100, 0), BAD);
            for (int far : FAR) {
                CHECK.due("best(0, " + far + ", 0)", port.best(0, far, 0), far == 32 ? 2 : BAD);
            }
        }
    }

    /** "how many NUMBERS (what = 0), PRICE (1), those by AND (2), LESS (3), HALF (4), as bits" */
    private static void bestWhat() {
        TakenNumbers port = Given.laid("n6;p1;p2;h1,1;h3,1;h5,1;h2,1;c6,7;c4,2;k3,3,5;");
        int[] answers = {BAD, BAD, 2, 12, 32, 8, 0, BAD, BAD};
        for (int what = -2; what <= 6; what++) {
            CHECK.due("2 by 6 less 4 of what " + what, Given.laid("n6;p1;p2;h1,1;h3,1;h5,1;h2,1;c6,7;c4,2;k2,3,5;").best(0, 2, what),
                    answers[what + 2]);
        }
        int[] half = {BAD, BAD, 1, 7, 0, 0, 8, BAD, BAD};
        for (int what = -2; what <= 6; what++) {
            CHECK.due("2 by half of 4 of what " + what, port.best(0, 2, what), half[what + 2]);
        }
        for (int far : FAR) {
            CHECK.due("best(0, 2, " + far + ")", port.best(0, 2, far), BAD);
        }
    }

    /** "NONE": for each what. */
    private static void bestNone() {
        TakenNumbers port = Given.laid("n5;p1;p2;h5,1;");
        for (int what = 0; what <= 4; what++) {
            CHECK.that("10 of what " + what, port.best(0, 10, what) != NONE);
            CHECK.due("11 of what " + what, port.best(0, 11, what), NONE);
            CHECK.that("15 of what " + what, port.best(1, 15, what) != NONE);
            CHECK.due("16 of what " + what, port.best(1, 16, what), NONE);
        }
        TakenNumbers one = Given.laid("n1;p1;k3,0,0;");
        CHECK.due("1 by 1", one.best(0, 1, 0), 1);
        CHECK.due("2 by 1", one.best(0, 2, 0), NONE);
        one.born();
        CHECK.due("1, taken", one.best(0, 1, 0), NONE);
    }

    private static void badAheadOfNone() {
        TakenNumbers port = Given.laid("n1;p1;");
        port.born();
        CHECK.due("nothing is left, what -1", port.best(0, 1, -1), BAD);
        CHECK.due("nothing is left, what 5", port.best(0, 1, 5), BAD);
        CHECK.due("nothing is left, amount 0", port.best(0, 0, 0), BAD);
        CHECK.due("nothing is left, amount 100", port.best(0, 100, 0), BAD);
        CHECK.due("nothing is left, person 1", port.best(1, 1, 0), BAD);
        CHECK.due("nothing is left", port.best(0, 1, 0), NONE);
    }

    private static void uses(String text, int amount, int ands, int lesses, int halves) {
        TakenNumbers port = Given.laid(text);
        CHECK.due(amount + " by and, " + text, port.best(0, amount, 2), ands);
        CHECK.due(amount + " by less, " + text, port.best(0, amount, 3), lesses);
        CHECK.due(amount + " by half, " + text, port.best(0, amount, 4), halves);
    }

    /** "that of fewest NUMBERS", whatever it costs. */
    private static void bestOfFewest() {
        uses("n4;p1;c4,9;c1,0;c3,0;", 4, 8, 0, 0);
        uses("n4;p1;p1;h2,1;c4,9;c1,0;c3,0;k3,0,9;", 2, 0, 0, 8);
        uses("n9;p1;p1;h6,1;c1,0;c2,0;c3,0;c4,9;c5,9;c7,9;c8,9;c9,9;k2,9,0;", 6, 17, 0, 0);
    }

    /** "of these the cheapest", by one. */
    private static void bestOfCheapest() {
        uses("n5;p1;p1;h5,1;c1,2;", 5, 2 + 4, 0, 0);
        uses("n5;p1;p1;h5,1;c1,1;", 5, 1 + 8, 0, 0);
        uses("n6;p1;p1;h5,1;c1,1;c2,1;c3,2;c4,2;k2,0,0;", 5, 32, 1, 0);
        uses("n6;p1;p1;h5,1;c1,1;c2,1;c3,2;c4,2;k2,2,0;", 5, 1 + 8, 0, 0);
        uses("n4;p1;c2,3;k3,0,1;", 2, 0, 0, 8);
        uses("n4;p1;c2,2;k3,0,1;", 2, 2, 0, 0);
    }

    /** "of several the first (by the USE of NUMBER 1: AND, LESS, HALF, not used" */
    private static void bestByTheUseOfTheFirst() {
        uses("n6;p1;p1;h5,1;k3,0,0;", 5, 1 + 8, 0, 0);
        uses("n6;p1;p1;h5,1;h4,1;k3,0,0;", 5, 32, 1, 0);
        uses("n6;p1;p1;h5,1;h4,1;h6,1;k3,0,0;", 5, 2 + 4, 0, 0);
    }

    /** "then of 2, ..)": 7 is 2 and 5, 9 less 2, half of 2 and 6, 3 and 4, 3 and half of 8. */
    private static void bestByTheUseOfTheNext() {
        uses("n9;p1;p1;h1,1;h7,1;k3,0,0;", 7, 2 + 16, 0, 0);
        uses("n9;p1;p1;h1,1;h7,1;h5,1;k3,0,0;", 7, 256, 2, 0);
        uses("n9;p1;p1;h1,1;h7,1;h5,1;h9,1;k3,0,0;", 7, 32, 0, 2);
        uses("n9;p1;p1;h1,1;h7,1;h5,1;h9,1;h6,1;k3,0,0;", 7, 4 + 8, 0, 0);
        uses("n9;p1;p1;h1,1;h7,1;h5,1;h9,1;h6,1;h2,1;k3,0,0;", 7, 4 + 8, 0, 0);
        uses("n9;p1;p1;h1,1;h7,1;h5,1;h9,1;h6,1;h4,1;k3,0,0;", 7, 4, 0, 128);
    }

    private static void bestOfTheLastNumbers() {
        uses("n24;p1;k0,0,0;", 24, 1 << 23, 0, 0);
        uses("n24;p1;p1;h1,1;h2,1;c3,9;c4,9;c5,9;c6,9;c7,9;c8,9;c9,9;c10,9;c11,9;c12,9;c13,9;c14,9;c15,9;c16,9;c17,9;c18,9;"
                + "c19,9;c20,9;c21,9;c22,9;k2,0,0;", 1, 1 << 23, 1 << 22, 0);
        uses("n24;p1;p1;h12,1;k3,9,0;", 12, 0, 0, 1 << 23);
    }

    /** "PRICE (1)": of the first and the last NUMBER, of nothing, of as much as can be. */
    private static void bestOfTheHighestPrice() {
        TakenNumbers port = Given.laid("n24;p1;c1,0;c24,9;c23,0;k3,9,9;");
        CHECK.due("1 costs nothing", port.best(0, 1, 1), 0);
        CHECK.due("23 costs nothing", port.best(0, 23, 1), 0);
        CHECK.due("24 costs 9", port.best(0, 24, 1), 9);
        StringBuilder dear = new StringBuilder("n14;p99;");
        for (int x = 1; x <= 14; x++) {
            dear.append('c').append(x).append(",9;");
        }
        CHECK.due("eleven of 9", Given.laid(dear.toString()).best(0, 99, 1), 99);
        TakenNumbers signs = Given.laid("n4;p1;p1;h1,1;h2,1;c3,9;c4,9;k2,9,9;");
        CHECK.due("4 less 3", signs.best(0, 1, 1), 27);
    }

    /** Amounts are 1 to 99, what some of the NUMBERS come to may be less or more. */
    private static void bestBeyondTheAmounts() {
        uses("n6;p1;p1;h1,1;h2,1;h5,1;k2,0,0;", 1, 8, 4, 0);
        uses("n6;p1;p1;h1,1;h2,1;h3,1;k2,0,0;", 3, 8 + 16, 32, 0);
        uses("n6;p1;p1;h1,1;h2,1;h3,1;k3,0,0;", 3, 0, 0, 32);
        String own = "h2,1;h3,1;h4,1;h5,1;h6,1;h7,1;h8,1;h9,1;h11,1;h12,1;h13,1;h14,1;h15,1;h16,1;h17,1;h18,1;h19,1;h20,1;";
        uses("n24;p1;p1;" + own + "k2,0,0;", 99, 512 + (15 << 20), 1, 0);
        uses("n24;p1;p1;" + own + "k3,0,0;", 99, 512 + (15 << 20), 1, 0);
    }

    /** What is answered for one amount has nothing of the one that was asked ahead of it. */
    private static void bestOneBehindTheOther() {
        TakenNumbers port = Given.laid("n6;p1;p1;h1,1;h2,1;h5,1;h3,1;k3,2,4;");
        int[] amounts = {3, 2, 4, 5, 6, 10, 2, 7, 4};
        int[][] due = {{0, 0, 32, 5}, {0, 0, 8, 5}, {8, 0, 0, 1}, {0, 0, 8 + 32, 10}, {32, 0, 0, 1}, {8 + 32, 0, 0, 2}, {0, 0, 8, 5},
            {8, 0, 32, 6}, {8, 0, 0, 1}};
        for (int k = 0; k < amounts.length; k++) {
            for (int use = 1; use <= 3; use++) {
                CHECK.due(amounts[k] + " by use " + use, port.best(0, amounts[k], use + 1), due[k][use - 1]);
            }
            CHECK.due("the price of " + amounts[k], port.best(0, amounts[k], 1), due[k][3]);
        }
        TakenNumbers signs = Given.laid("n6;p1;p1;h1,1;h2,1;k2,3,0;");
        CHECK.due("1 by 4 less 3", signs.best(0, 1, 3), 4);
        CHECK.due("3 by 3, nothing less", signs.best(0, 3, 3), 0);
        CHECK.due("3 by 3, for 1", signs.best(0, 3, 1), 1);
    }

    // ---- "nothing changes then"

    private static void refusedChangesNothing() {
        Refused busy = new Refused(CHECK, Given::busyDay);
        busy.due("say(4)", BAD, port -> port.say(4));
        busy.due("say(-1)", BAD, port -> port.say(-1));
        busy.due("say(1), half by sums", NO, port -> port.say(1));
        busy.due("speak(4)", BAD, port -> port.speak(4));
        busy.due("speak(-1)", BAD, port -> port.speak(-1));
        busy.due("speak(0), who has", NO, port -> port.speak(0));
        busy.due("lend(0, 1)", BAD, port -> port.lend(0, 1));
        busy.due("lend(10, 1)", BAD, port -> port.lend(10, 1));
        busy.due("lend(5, 4)", BAD, port -> port.lend(5, 4));
        busy.due("lend(5, -1)", BAD, port -> port.lend(5, -1));
        busy.due("lend(5, 1), lent", NO, port -> port.lend(5, 1));
        busy.due("lend(5, 0), his own", NO, port -> port.lend(5, 0));
        busy.due("lend(2, 1), nobody's", NO, port -> port.lend(2, 1));
        busy.due("best(0, 45, 0)", NONE, port -> port.best(0, 45, 0));
        busy.due("best(0, 100, 0)", BAD, port -> port.best(0, 100, 0));
        Refused feast = new Refused(CHECK, port -> {
            Given.busyDay(port);
            port.dusk(true);
        });
        feast.due("born() on a feast", NO, TakenNumbers::born);
        Refused taken = new Refused(CHECK, port -> {
            Given.rewrite(port, "n3;p3;p2;p3;h3,2;k0,1,1;");
            port.lay();
            port.born();
            port.speak(1);
            port.tell(3, 1);
        });
        taken.due("born(), 2 is taken", NO, TakenNumbers::born);
        taken.due("speak(0), 3 is of 2", NONE, port -> port.speak(0));
        taken.due("say(0), 3 is of 2", NO, port -> port.say(0));
        taken.due("say(1), who has", NO, port -> port.say(1));
        new Refused(CHECK, port -> port.tell(3, 1)).due("undo(), nothing to undo", NO, TakenNumbers::undo);
    }
}
