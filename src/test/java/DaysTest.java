/** Promises 12 to 18: what is said, lent and born, dusk, what is undone, the best sayings. */
public final class DaysTest {
    private static final Check CHECK = new Check();
    private static final int NONE = TakenNumbers.NONE, NO = TakenNumbers.NO, BAD = TakenNumbers.BAD;

    public static void main(String[] args) {
        saying();
        speaking();
        lending();
        births();
        dusks();
        undoing();
        bestOfSeveral();
        bestByKind();
        CHECK.end();
    }

    private static void saying() {
        TakenNumbers port = Given.laid("n9;p7;p7;p5;c3,4;h4,1;k2,2,0;");
        CHECK.due("say(3)", port.say(3), BAD);
        CHECK.due("say(-1)", port.say(-1), BAD);
        CHECK.due("say no words", port.say(0), NO);
        Given.retell(port, 3, 1, 5, 1);
        CHECK.due("another amount", port.say(0), NO);
        Given.retell(port, 3, 1, 4, 1);
        CHECK.due("a number of another", port.say(0), NO);
        CHECK.due("his own number", port.say(1), 5);
        CHECK.due("taken by 1", port.number(4, 2), 1);
        CHECK.due("the words stay", port.count(6), 2);
        Given.retell(port, 9, 1, 2, 2);
        CHECK.due("he has said it", port.say(1), NO);
        CHECK.due("with a less", port.say(0), 4);
        Given.retell(port, 8, 1, 3, 2);
        CHECK.due("a taken number", port.say(2), NO);
        Given.retell(port, 8, 1, 6, 3);
        CHECK.due("no saying by the law", port.say(2), NO);
        Given.retell(port, 5, 1);
        CHECK.due("by one", port.say(2), 1);
        CHECK.due("all have said", port.count(3), 3);
        CHECK.due("taken", port.count(2), 5);
        CHECK.due("nothing changes by a NO", port.count(8), 3);
    }

    private static void speaking() {
        TakenNumbers port = Given.laid("n5;p5;p5;p5;p5;");
        CHECK.due("speak(4)", port.speak(4), BAD);
        CHECK.due("speak(-1)", port.speak(-1), BAD);
        CHECK.due("by 5", port.speak(2), 1);
        CHECK.due("once more", port.speak(2), NO);
        CHECK.due("by 1 and 4", port.speak(0), 2);
        CHECK.due("by 2 and 3", port.speak(3), 2);
        CHECK.due("no way left", port.speak(1), NONE);
        CHECK.due("1 has not said it", port.person(1, 1), 0);
        CHECK.due("4 is 0's", port.number(4, 2), 0);
        CHECK.due("3 is 3's", port.number(3, 2), 3);
        CHECK.due("nothing changes by NO or NONE", port.count(8), 3);
    }

    private static void lending() {
        TakenNumbers port = Given.laid("n6;p3;p2;p6;h3,0;h2,1;h1,1;");
        CHECK.due("lend(0, 1)", port.lend(0, 1), BAD);
        CHECK.due("lend(7, 1)", port.lend(7, 1), BAD);
        CHECK.due("lend(3, 3)", port.lend(3, 3), BAD);
        CHECK.due("lend(3, -1)", port.lend(3, -1), BAD);
        CHECK.due("nobody's", port.lend(4, 1), NO);
        CHECK.due("his own", port.lend(3, 0), NO);
        CHECK.due("lend(3, 1)", port.lend(3, 1), 1);
        CHECK.due("lent to another", port.lend(3, 2), NO);
        CHECK.due("lend(2, 2)", port.lend(2, 2), 2);
        CHECK.due("whose it is says it", port.speak(1), 1);
        CHECK.due("it is still lent", port.number(2, 3), 2);
        CHECK.due("lend(1, 0)", port.lend(1, 0), 3);
        CHECK.due("taken ones are", port.dusk(false), 1);
        CHECK.due("nothing is lent", port.number(3, 3), NONE);
        CHECK.due("a new day's first", port.lend(3, 2), 1);
        port.born();
        CHECK.due("taken by a birth", port.lend(1, 0), NO);
        CHECK.due("nothing changes by a NO", port.number(1, 3), NONE);
    }

    private static void births() {
        TakenNumbers port = Given.laid("n3;p2;p1;h1,0;");
        CHECK.due("whosever it is", port.born(), 1);
        CHECK.due("for nobody", port.number(1, 2), 7);
        CHECK.due("2 is said", port.speak(0), 1);
        CHECK.due("2 is taken", port.born(), NO);
        CHECK.due("one birth today", port.count(4), 1);
        CHECK.due("undo speak", port.undo(), 1);
        CHECK.due("2nd", port.born(), 2);
        CHECK.due("3rd", port.born(), 3);
        CHECK.due("there is no 4", port.born(), NO);
        CHECK.due("three births", port.count(4), 3);
        port.dusk(true);
        CHECK.due("not on a feast", port.born(), NO);
        CHECK.due("no births on it", port.count(4), 0);
        port.dusk(false);
        CHECK.due("the first of a day", port.born(), 1);
    }

    private static void dusks() {
        TakenNumbers port = Given.laid("n9;p3;p4;p9;h9,0;");
        CHECK.due("nothing taken", port.dusk(false), 0);
        port.born();
        port.speak(0);
        port.speak(1);
        port.lend(9, 2);
        CHECK.due("three taken", port.dusk(true), 3);
        CHECK.due("a feast", port.count(5), 1);
        CHECK.due("all free", port.count(2), 0);
        CHECK.due("nobody has said anything", port.count(3), 0);
        CHECK.due("no births", port.count(4), 0);
        CHECK.due("not lent", port.number(9, 3), NONE);
        port.dusk(false);
        CHECK.due("no feast", port.count(5), 0);
    }

    private static void undoing() {
        TakenNumbers port = Given.laid("n9;p3;p4;p9;h9,0;");
        CHECK.due("nothing to undo", port.undo(), NO);
        Given.retell(port, 1, 1, 2, 1);
        port.say(0);
        port.lend(9, 2);
        port.speak(1);
        port.dusk(true);
        port.dusk(false);
        port.born();
        CHECK.due("can be undone", port.count(8), 6);
        CHECK.due("born undone", port.undo() * 10 + port.count(4), 50);
        CHECK.due("dusk undone: the feast", port.undo() * 10 + port.count(5), 41);
        CHECK.due("dusk undone: the day", port.undo() * 10 + port.count(2), 33);
        CHECK.due("lent again", port.number(9, 3), 2);
        CHECK.due("births on that day", port.count(4), 0);
        CHECK.due("no feast on that day", port.count(5), 0);
        CHECK.due("speak undone", port.undo() * 10 + port.person(1, 1), 20);
        CHECK.due("0 has said it", port.person(0, 1), 1);
        CHECK.due("lend undone", port.undo() * 10 - port.number(9, 3), 14);
        CHECK.due("say undone", port.undo() * 10 + port.count(2), 0);
        CHECK.due("nothing more", port.undo(), NO);
        CHECK.due("the words stay", port.count(6), 2);
        onlyTheLastEight();
    }

    private static void onlyTheLastEight() {
        TakenNumbers port = Given.laid("n24;p3;");
        for (int k = 1; k <= 20; k++) {
            port.born();
            CHECK.due("count(8) with birth " + k, port.count(8), Math.min(k, 8));
        }
        for (int left = 7; left >= 0; left--) {
            CHECK.due("undo()", port.undo(), left);
            CHECK.due("births then", port.count(4), 12 + left);
        }
        CHECK.due("the ninth", port.undo(), NO);
        CHECK.due("twelve stay", port.count(2), 12);
        CHECK.due("on", port.born(), 13);
    }

    private static void bestOfSeveral() {
        TakenNumbers port = Given.laid("n9;p5;c5,9;c1,3;k3,1,2;");
        CHECK.due("fewest first, dear as it is", port.best(0, 5, 0), 1);
        CHECK.due("its price", port.best(0, 5, 1), 9);
        port = Given.laid("n9;p5;p5;h5,1;c1,3;c6,2;k1,1,2;");
        CHECK.due("the cheapest of two", port.best(0, 5, 2), 2 + 4);
        CHECK.due("the price of that", port.best(0, 5, 1), 2);
        port = Given.laid("n9;p5;p5;h5,1;k1,1,2;");
        CHECK.due("the first of several: by 1", port.best(0, 5, 2), 1 + 8);
        port = Given.laid("n9;p5;p5;h5,1;k2,0,2;");
        CHECK.due("1 and, ahead of 1 less", port.best(0, 5, 2) * 1000 + port.best(0, 5, 3), 9000);
        port = Given.laid("n9;p2;p2;h2,1;c1,9;c3,9;k2,0,2;");
        CHECK.due("2 is 6 less 4", port.best(0, 2, 2) * 1000 + port.best(0, 2, 3), 32008);
        port = Given.laid("n8;p2;p2;h2,1;c1,9;c3,9;c8,9;k3,0,0;");
        CHECK.due("2 is half of 4", port.best(0, 2, 4), 8);
        CHECK.due("by nothing else", port.best(0, 2, 2) + port.best(0, 2, 3), 0);
        port = Given.laid("n4;p2;p2;h2,1;k3,0,9;");
        CHECK.due("half of 4 is fewest, dear as it is", port.best(0, 2, 1), 10);
        port = Given.laid("n4;p2;k3,0,0;c2,1;c4,0;");
        CHECK.due("half of 4 is cheaper than 2", port.best(0, 2, 4), 8);
        port = Given.laid("n4;p2;k3,0,0;");
        CHECK.due("2 by and ahead of 4 by half", port.best(0, 2, 2), 2);
        port = Given.laid("n6;p1;p1;h1,1;h2,1;k3,0,0;");
        CHECK.due("1 is 4 less 3, ahead of 5 less 4", port.best(0, 1, 2) * 100 + port.best(0, 1, 3), 804);
    }

    private static void bestByKind() {
        TakenNumbers port = Given.laid("n24;p99;p1;k1,1,1;");
        CHECK.due("99 by sums", port.best(0, 99, 0), 5);
        CHECK.due("best(2, 1, 0)", port.best(2, 1, 0), BAD);
        CHECK.due("best(-1, 1, 0)", port.best(-1, 1, 0), BAD);
        CHECK.due("best(0, 0, 0)", port.best(0, 0, 0), BAD);
        CHECK.due("best(0, 100, 0)", port.best(0, 100, 0), BAD);
        CHECK.due("best(0, 1, 5)", port.best(0, 1, 5), BAD);
        CHECK.due("best(0, 1, -1)", port.best(0, 1, -1), BAD);
        port = Given.laid("n5;p99;k1,1,1;");
        CHECK.due("too much", port.best(0, 16, 0), NONE);
        CHECK.due("all together", port.best(0, 15, 2), 31);
        CHECK.due("too much, and no such what", port.best(0, 16, 5), BAD);
        CHECK.due("whole, the last of 24", Given.laid("n24;p3;k0,1,1;").best(0, 24, 2), 1 << 23);
        CHECK.due("whole, beyond 24", Given.laid("n24;p3;k0,1,1;").best(0, 25, 2), NONE);
        port = Given.laid("n5;p3;k0,1,1;");
        CHECK.due("whole", port.best(0, 5, 2), 16);
        CHECK.due("no whole one", port.best(0, 6, 2), NONE);
        port.speak(0);
        CHECK.due("said or not", port.best(0, 3, 0), NONE);
        CHECK.due("another amount, though he has said his", port.best(0, 4, 0), 1);
        port = Given.laid("n2;p1;k3,5,7;");
        CHECK.due("1 by 1", port.best(0, 1, 1), 1);
        port.born();
        CHECK.due("1 by half of 2", port.best(0, 1, 1), 8);
        CHECK.due("half bits", port.best(0, 1, 4), 2);
    }
}
