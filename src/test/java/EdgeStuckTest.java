/** The edges of promises 19 to 25: a method for each sentence that names one. */
public final class EdgeStuckTest {
    private static final Check CHECK = new Check();
    private static final int NONE = TakenNumbers.NONE, NO = TakenNumbers.NO, BAD = TakenNumbers.BAD;
    private static final int[] FAR = {Integer.MIN_VALUE, Integer.MIN_VALUE + 1, -65536, -256, -32, 32, 256, 65536, Integer.MAX_VALUE};

    public static void main(String[] args) {
        nobodyStuckAllStuck();
        whoHasSaidIsNotStuck();
        firstComesFirst();
        freedOfPersonsThereAre();
        freedNone();
        freedLowestTaken();
        freedByHisAlone();
        orderPlaces();
        orderOfFewer();
        orderOfNobody();
        orderFirstOfSeveral();
        orderOfThoseWhoCanNot();
        denyOneOrTwo();
        denyWhat();
        denyAsManyAsAreFree();
        denyFirstOfSeveral();
        denyTheLastOnes();
        denyBadAheadOfNone();
        guardNone();
        guardTheOnlyFreeOne();
        guardLowestOfSeveral();
        guardTheLast();
        valueOfNumbersThereAre();
        valueOfATakenOne();
        valueNoneToSix();
        valueSaidOrNot();
        changedLowestOfSeveral();
        changedToEach();
        refusedChangesNothing();
        CHECK.end();
    }

    // ---- promise 19

    /** "those that can not (bits)": none, each of six, all. */
    private static void nobodyStuckAllStuck() {
        CHECK.due("none of six", Given.laid("n6;p1;p2;p3;p4;p5;p6;k0,1,1;").stuck(), 0);
        for (int i = 0; i < 6; i++) {
            StringBuilder text = new StringBuilder("n6;");
            for (int k = 0; k < 6; k++) {
                text.append('p').append(k == i ? 7 : k + 1).append(';');
            }
            CHECK.due("person " + i + " alone", Given.laid(text.append("k0,1,1;").toString()).stuck(), 1 << i);
        }
        CHECK.due("all of six", Given.laid("n6;p7;p7;p7;p7;p7;p7;k0,1,1;").stuck(), 63);
        CHECK.due("the only one", Given.laid("n1;p2;").stuck(), 1);
        TakenNumbers port = Given.laid("n2;p1;p2;");
        port.born();
        port.born();
        CHECK.due("all numbers are taken", port.stuck(), 3);
    }

    /** "all that have not SAID anything today" */
    private static void whoHasSaidIsNotStuck() {
        TakenNumbers port = Given.laid("n1;p1;p1;");
        CHECK.due("1 comes too late", port.stuck(), 2);
        port.speak(1);
        CHECK.due("0 comes too late", port.stuck(), 1);
        port.dusk(false);
        CHECK.due("the next day", port.stuck(), 2);
        TakenNumbers all = Given.laid("n2;p1;p2;");
        all.speak(0);
        all.speak(1);
        CHECK.due("all have said it", all.stuck(), 0);
    }

    /** "0 first, each by BEST": 5 by 5, then 1 and 4, then 2 and 3. */
    private static void firstComesFirst() {
        CHECK.due("three of 5", Given.laid("n5;p5;p5;p5;").stuck(), 0);
        CHECK.due("four of 5", Given.laid("n5;p5;p5;p5;p5;").stuck(), 8);
        CHECK.due("1 behind three of 5", Given.laid("n5;p5;p5;p1;").stuck(), 4);
        CHECK.due("1 ahead of them", Given.laid("n5;p1;p5;p5;").stuck(), 0);
    }

    // ---- promise 20

    private static void freedOfPersonsThereAre() {
        TakenNumbers port = Given.laid("n1;p1;p1;p1;");
        port.born();
        for (int i = -2; i <= 8; i++) {
            CHECK.due("freed(" + i + ") of three", port.freed(i), i >= 0 && i < 3 ? 1 : BAD);
        }
        for (int far : FAR) {
            CHECK.due("freed(" + far + ")", port.freed(far), BAD);
        }
    }

    /** "none (for all else, too)" */
    private static void freedNone() {
        TakenNumbers port = Given.laid("n2;p1;p2;p9;");
        CHECK.due("has a best", port.freed(0), NONE);
        CHECK.due("nothing is taken", port.freed(2), NONE);
        port.speak(0);
        CHECK.due("has said it", port.freed(0), NONE);
        CHECK.due("has a best still", port.freed(1), NONE);
        CHECK.due("not by a single one", port.freed(2), NONE);
        port.speak(1);
        CHECK.due("not by any", port.freed(2), NONE);
        TakenNumbers two = Given.laid("n3;p5;k1,1,1;");
        two.born();
        two.born();
        CHECK.due("2 would free him", two.freed(0), 2);
        two.born();
        CHECK.due("2 and 3 would, none alone", two.freed(0), NONE);
    }

    /** "the lowest TAKEN NUMBER such that ..": the first, the last, one of several. */
    private static void freedLowestTaken() {
        TakenNumbers port = Given.laid("n24;p24;p1;p23;k0,1,1;");
        for (int k = 1; k <= 24; k++) {
            port.born();
        }
        CHECK.due("by the last", port.freed(0), 24);
        CHECK.due("by the first", port.freed(1), 1);
        CHECK.due("by the last but one", port.freed(2), 23);
        TakenNumbers sums = Given.laid("n6;p6;p6;h5,1;h6,1;k1,1,1;");
        sums.born();
        sums.born();
        CHECK.due("6 is 2 and 4, ahead of 1 and 2 and 3", sums.freed(0), 2);
        sums.undo();
        CHECK.due("2 and 4 are free", sums.freed(0), NONE);
    }

    /** "were it not TAKEN": it must be one that he MAY use then. */
    private static void freedByHisAlone() {
        TakenNumbers port = Given.laid("n2;p2;p2;h2,1;k0,1,1;");
        port.speak(1);
        CHECK.due("2 is of 1", port.freed(0), NONE);
        port.undo();
        port.lend(2, 0);
        port.speak(1);
        CHECK.due("2 was lent to 0", port.freed(0), 2);
        TakenNumbers own = Given.laid("n2;p1;p2;h1,0;k0,1,1;");
        own.born();
        CHECK.due("his own, taken by a birth", own.freed(0), 1);
    }

    // ---- promise 21

    /** "how many can (k = -1), who is at place k (0 to 5 ..)" */
    private static void orderPlaces() {
        TakenNumbers port = Given.laid("n6;p1;p2;p3;p4;p5;p6;k0,1,1;");
        int[] answers = {BAD, BAD, 6, 0, 1, 2, 3, 4, 5, BAD, BAD};
        for (int k = -3; k <= 7; k++) {
            CHECK.due("order(" + k + ") of six", port.order(k), answers[k + 3]);
        }
        for (int far : FAR) {
            CHECK.due("order(" + far + ")", port.order(far), BAD);
        }
    }

    /** "NONE: there are not so many" */
    private static void orderOfFewer() {
        TakenNumbers port = Given.laid("n6;p1;p2;p3;p4;p5;p6;k0,1,1;");
        for (int spoken = 1; spoken <= 6; spoken++) {
            port.speak(spoken - 1);
            CHECK.due("how many can", port.order(-1), 6 - spoken);
            for (int k = 0; k <= 5; k++) {
                CHECK.due("order(" + k + ") without " + spoken, port.order(k), k < 6 - spoken ? k + spoken : NONE);
            }
            CHECK.due("order(6)", port.order(6), BAD);
        }
    }

    private static void orderOfNobody() {
        TakenNumbers port = Given.laid("n1;p1;");
        CHECK.due("one can", port.order(-1), 1);
        CHECK.due("who is first", port.order(0), 0);
        CHECK.due("who is second", port.order(1), NONE);
        port.speak(0);
        CHECK.due("nobody is left", port.order(-1), 0);
        CHECK.due("nobody is first", port.order(0), NONE);
        CHECK.due("nor at place 5", port.order(5), NONE);
        CHECK.due("place 6", port.order(6), BAD);
    }

    private static void rowIs(String text, int can, int... row) {
        TakenNumbers port = Given.laid(text);
        CHECK.due("how many can, " + text, port.order(-1), can);
        for (int k = 0; k < row.length; k++) {
            CHECK.due("place " + k + ", " + text, port.order(k), row[k]);
        }
    }

    /** "of several the first (by who is first, then ..)" */
    private static void orderFirstOfSeveral() {
        rowIs("n3;p3;p1;p2;p9;h3,3;", 2, 1, 0, 2, 3);
        rowIs("n3;p3;p1;p2;", 3, 0, 1, 2);
        rowIs("n5;p5;p5;p1;", 3, 0, 2, 1);
        rowIs("n1;p1;p1;p1;p1;p1;p1;", 1, 0, 1, 2, 3, 4, 5);
        rowIs("n6;p6;p6;p6;p1;p2;p4;k1,1,1;", 4, 0, 1, 3, 4, 2, 5);
    }

    /** Those that can not have their place in the row, too. */
    private static void orderOfThoseWhoCanNot() {
        rowIs("n1;p9;p9;p9;p9;p9;p9;", 0, 0, 1, 2, 3, 4, 5);
        rowIs("n1;p9;p9;p9;p9;p9;p1;", 1, 0, 1, 2, 3, 4, 5);
    }

    // ---- promise 22

    /** "DENY n (1, 2) NUMBERS" */
    private static void denyOneOrTwo() {
        TakenNumbers port = Given.laid("n3;p1;p2;p3;k0,1,1;");
        int[] answers = {BAD, BAD, 1, 2, BAD, BAD};
        for (int n = -1; n <= 4; n++) {
            CHECK.due("deny(" + n + ", 0)", port.deny(n, 0), answers[n + 1]);
        }
        for (int far : FAR) {
            CHECK.due("deny(" + far + ", 0)", port.deny(far, 0), BAD);
        }
    }

    /** "how many are STUCK (what = 0), the lower NUMBER (1), the higher (2; of one: that)" */
    private static void denyWhat() {
        TakenNumbers port = Given.laid("n5;p5;p3;p9;k0,1,1;");
        int[] one = {BAD, BAD, 2, 3, 3, BAD, BAD};
        int[] two = {BAD, BAD, 3, 3, 5, BAD, BAD};
        for (int what = -2; what <= 4; what++) {
            CHECK.due("deny(1, " + what + ")", port.deny(1, what), one[what + 2]);
            CHECK.due("deny(2, " + what + ")", port.deny(2, what), two[what + 2]);
        }
        for (int far : FAR) {
            CHECK.due("deny(1, " + far + ")", port.deny(1, far), BAD);
        }
    }

    /** "none (not so many are free)": three free, two, one, none. */
    private static void denyAsManyAsAreFree() {
        TakenNumbers port = Given.laid("n3;p9;");
        int[][] one = {{1, 1, 1}, {1, 2, 2}, {1, 3, 3}, {NONE, NONE, NONE}};
        int[][] two = {{1, 1, 2}, {1, 2, 3}, {NONE, NONE, NONE}, {NONE, NONE, NONE}};
        for (int births = 0; births <= 3; births++) {
            for (int what = 0; what <= 2; what++) {
                CHECK.due("deny(1, " + what + ") with births " + births, port.deny(1, what), one[births][what]);
                CHECK.due("deny(2, " + what + ") with births " + births, port.deny(2, what), two[births][what]);
            }
            port.born();
        }
        CHECK.due("one of one", Given.laid("n1;p1;").deny(1, 0), 1);
        CHECK.due("two of one", Given.laid("n1;p1;").deny(2, 0), NONE);
    }

    /** "of several the first (by the lower NUMBER, then the higher one)" */
    private static void denyFirstOfSeveral() {
        TakenNumbers port = Given.laid("n6;p6;p5;p4;k0,1,1;");
        CHECK.due("one of 4, 5, 6", port.deny(1, 1), 4);
        CHECK.due("two of them", port.deny(2, 1) * 10 + port.deny(2, 2), 45);
        port.speak(1);
        CHECK.due("without 5", port.deny(2, 1) * 10 + port.deny(2, 2), 46);
        port.speak(0);
        CHECK.due("4 and the first", port.deny(2, 1) * 10 + port.deny(2, 2), 14);
        port.speak(2);
        CHECK.due("nobody is left: none stuck", port.deny(2, 0), 0);
        CHECK.due("nobody is left: the first two", port.deny(2, 1) * 10 + port.deny(2, 2), 12);
        CHECK.due("nobody is left: the first", port.deny(1, 0) * 10 + port.deny(1, 1), 1);
    }

    private static void denyTheLastOnes() {
        TakenNumbers port = Given.laid("n24;p23;p24;k0,1,1;");
        CHECK.due("24 alone", Given.laid("n24;p24;k0,1,1;").deny(1, 1), 24);
        CHECK.due("23", port.deny(1, 0) * 100 + port.deny(1, 1), 123);
        CHECK.due("23 and 24", port.deny(2, 0) * 10000 + port.deny(2, 1) * 100 + port.deny(2, 2), 22324);
        TakenNumbers sums = Given.laid("n2;p3;p2;p1;");
        CHECK.due("1 alone: 0 and 2 are stuck", sums.deny(1, 0) * 10 + sums.deny(1, 1), 21);
        CHECK.due("all three", sums.deny(2, 0), 3);
    }

    private static void denyBadAheadOfNone() {
        TakenNumbers port = Given.laid("n1;p1;");
        port.born();
        CHECK.due("none is free, what 3", port.deny(1, 3), BAD);
        CHECK.due("none is free, what -1", port.deny(2, -1), BAD);
        CHECK.due("none is free, three", port.deny(3, 0), BAD);
        CHECK.due("none is free", port.deny(1, 0), NONE);
    }

    // ---- promise 23

    /** "NONE: all are TAKEN" */
    private static void guardNone() {
        TakenNumbers port = Given.laid("n2;p1;p2;k0,1,1;");
        CHECK.due("both are free", port.guard(), 1);
        port.speak(0);
        CHECK.due("2 is free", port.guard(), 2);
        port.speak(1);
        CHECK.due("all are taken", port.guard(), NONE);
        port.dusk(false);
        CHECK.due("the next day", port.guard(), 1);
    }

    private static void guardTheOnlyFreeOne() {
        TakenNumbers port = Given.laid("n24;p1;p1;h24,0;");
        for (int k = 1; k <= 23; k++) {
            port.born();
        }
        CHECK.due("24 alone is free", port.guard(), 24);
        port.born();
        CHECK.due("none is", port.guard(), NONE);
    }

    /** "of several the lowest" */
    private static void guardLowestOfSeveral() {
        CHECK.due("nobody is stuck by any", Given.laid("n3;p3;p3;").guard(), 1);
        CHECK.due("all are stuck by any", Given.laid("n3;p9;p9;").guard(), 1);
        CHECK.due("all six are stuck by any", Given.laid("n3;p9;p9;p9;p9;p9;p9;").guard(), 1);
        CHECK.due("five of six are", Given.laid("n3;p9;p9;p9;p9;p9;p1;h2,0;k0,1,1;").guard(), 1);
        TakenNumbers port = Given.laid("n5;p4;p5;p9;h4,2;h5,2;k0,1,1;");
        CHECK.due("4 would free 0, 5 would free 1", port.guard(), 4);
        port.lend(4, 0);
        CHECK.due("4 is lent to 0: 5 would free 1", port.guard(), 5);
        port.lend(5, 1);
        CHECK.due("5 is lent to 1: none frees 2", port.guard(), 1);
    }

    private static void guardTheLast() {
        CHECK.due("24", Given.laid("n24;p24;p1;h24,1;h23,1;k0,1,1;").guard(), 24);
        CHECK.due("to be nobody's may harm whose it is", Given.laid("n3;p3;p3;h3,1;k0,1,1;").guard(), 1);
    }

    // ---- promise 24

    private static void valueOfNumbersThereAre() {
        for (int n : new int[] {1, 9, 24}) {
            TakenNumbers port = Given.laid("n" + n + ";p99;");
            for (int x = -2; x <= 34; x++) {
                CHECK.due("value(" + x + ") of " + n, port.value(x), x >= 1 && x <= n ? 0 : BAD);
            }
            for (int far : FAR) {
                CHECK.due("value(" + far + ")", port.value(far), BAD);
            }
        }
    }

    /** "NO: it is TAKEN" */
    private static void valueOfATakenOne() {
        TakenNumbers port = Given.laid("n3;p3;p2;k0,1,1;");
        port.born();
        port.speak(0);
        CHECK.due("taken by a birth", port.value(1), NO);
        CHECK.due("free", port.value(2), 1);
        CHECK.due("taken by 0", port.value(3), NO);
        CHECK.due("beyond the last", port.value(4), BAD);
        port.undo();
        CHECK.due("free again", port.value(3), 1);
    }

    private static void valueNoneToSix() {
        TakenNumbers port = Given.laid("n24;p24;p24;p24;p24;p24;p24;k0,1,1;");
        CHECK.due("for all six", port.value(24), 6);
        CHECK.due("for none", port.value(23), 0);
        CHECK.due("for none who can not anyway", Given.laid("n2;p9;p9;").value(2), 0);
        CHECK.due("for whose it is alone", Given.laid("n2;p2;p2;h2,1;k0,1,1;").value(2), 1);
        CHECK.due("another way is left", Given.laid("n3;p3;").value(3), 0);
        CHECK.due("no other way is left", Given.laid("n3;p6;").value(3), 1);
    }

    /** "(SAID or not, each looked at alone)" */
    private static void valueSaidOrNot() {
        TakenNumbers port = Given.laid("n3;p3;p3;p3;");
        port.speak(0);
        CHECK.due("all three have but 1 and 2", port.value(1), 3);
        CHECK.due("all three have but 1 and 2", port.value(2), 3);
        port.speak(1);
        CHECK.due("nothing is free", port.value(2), NO);
    }

    // ---- promise 25

    /** "of several the lowest" */
    private static void changedLowestOfSeveral() {
        for (int kind = 0; kind <= 3; kind++) {
            String law = "k" + kind + ",1,1;";
            CHECK.due("nobody is stuck by any, " + law, Given.laid("n3;p3;" + law).changed(), 0);
            CHECK.due("all are stuck by any, " + law, Given.laid("n1;p9;p9;p9;p9;p9;p9;" + law).changed(), 0);
            CHECK.due("1 to 3 are alike, " + law, Given.laid("n3;p5;" + law).changed(), 1);
            TakenNumbers port = Given.laid("n1;p1;" + law);
            port.speak(0);
            CHECK.due("nobody is left, " + law, port.changed(), 0);
            CHECK.due("the law stays", port.law(0), kind);
        }
    }

    /** "the KIND of LAW (0 to 3) by which fewest would be STUCK" */
    private static void changedToEach() {
        for (int kind = 0; kind <= 3; kind++) {
            String law = "k" + kind + ",9,9;";
            CHECK.due("by whole, as 1 and 2 are left for others", Given.laid("n3;p3;p3;h3,1;p1;p2;h1,2;h2,3;" + law).changed(), 0);
            CHECK.due("by sums", Given.laid("n3;p6;" + law).changed(), 1);
            CHECK.due("by signs", Given.laid("n3;p1;p1;h1,1;" + law).changed(), 2);
            CHECK.due("six by whole, five by sums", Given.laid("n2;p3;p3;p3;p3;p3;p3;" + law).changed(), 1);
            TakenNumbers alone = Given.laid("n3;p1;" + law);
            alone.born();
            CHECK.due("3 less 2 by signs, of one alone", alone.changed(), 2);
            alone = Given.laid("n2;p1;" + law);
            alone.born();
            CHECK.due("half of 2 by halves, of one alone", alone.changed(), 3);
            CHECK.due("by halves", Given.laid("n2;p1;p1;h1,1;" + law).changed(), 3);
            CHECK.due("by whole all but one can, by others fewer", Given.laid("n3;p3;p1;p2;p3;h3,3;" + law).changed(), 0);
        }
    }

    // ---- "nothing changes then"

    private static void refusedChangesNothing() {
        Refused busy = new Refused(CHECK, Given::busyDay);
        busy.due("freed(4)", BAD, port -> port.freed(4));
        busy.due("freed(0)", NONE, port -> port.freed(0));
        busy.due("order(6)", BAD, port -> port.order(6));
        busy.due("order(-2)", BAD, port -> port.order(-2));
        busy.due("order(5)", NONE, port -> port.order(5));
        busy.due("deny(3, 0)", BAD, port -> port.deny(3, 0));
        busy.due("deny(2, 3)", BAD, port -> port.deny(2, 3));
        busy.due("value(10)", BAD, port -> port.value(10));
        busy.due("value(1)", NO, port -> port.value(1));
        Refused taken = new Refused(CHECK, port -> {
            Given.rewrite(port, "n2;p2;p2;");
            port.lay();
            port.keep();
            port.born();
            port.born();
        });
        taken.due("deny(1, 0)", NONE, port -> port.deny(1, 0));
        taken.due("deny(2, 1)", NONE, port -> port.deny(2, 1));
        taken.due("guard()", NONE, TakenNumbers::guard);
        taken.due("value(2)", NO, port -> port.value(2));
    }
}
