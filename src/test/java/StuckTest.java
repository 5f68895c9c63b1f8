/** Promises 19 to 25: who is stuck, and what would be if. */
public final class StuckTest {
    private static final Check CHECK = new Check();
    private static final int NONE = TakenNumbers.NONE, NO = TakenNumbers.NO, BAD = TakenNumbers.BAD;

    public static void main(String[] args) {
        stuck();
        freed();
        order();
        deny();
        guard();
        value();
        changed();
        nothingChanges();
        CHECK.end();
    }

    private static void stuck() {
        TakenNumbers port = Given.laid("n5;p5;p5;p5;p5;p9;");
        CHECK.due("5, 1 and 4, 2 and 3, two are stuck", port.stuck(), 8 + 16);
        port.born();
        CHECK.due("without 1: 5, 2 and 3, three are stuck", port.stuck(), 4 + 8 + 16);
        port = Given.laid("n5;p5;p5;p5;p5;k0,0,0;");
        CHECK.due("by whole but one can", port.stuck(), 14);
        port.speak(2);
        CHECK.due("who has said it is not", port.stuck(), 11);
        port = Given.laid("n5;p5;p5;h5,1;k0,0,0;");
        CHECK.due("5 is of 1", port.stuck(), 1);
        port.lend(5, 0);
        CHECK.due("lent to 0, who is first", port.stuck(), 2);
        port = Given.laid("n5;p5;");
        port.speak(0);
        CHECK.due("all have spoken", port.stuck(), 0);
    }

    private static void freed() {
        TakenNumbers port = Given.laid("n6;p6;p6;p3;h6,1;k0,0,0;");
        CHECK.due("freed(3)", port.freed(3), BAD);
        CHECK.due("freed(-1)", port.freed(-1), BAD);
        CHECK.due("not stuck", port.freed(1), NONE);
        CHECK.due("stuck, but nothing is taken", port.freed(0), NONE);
        port.speak(1);
        CHECK.due("6 is not his", port.freed(0), NONE);
        CHECK.due("who has said it", port.freed(1), NONE);
        port.undo();
        port.lend(6, 0);
        port.speak(1);
        CHECK.due("6 was lent to him", port.freed(0), 6);
        port = Given.laid("n6;p6;p9;k1,0,0;");
        for (int k = 1; k <= 6; k++) {
            port.born();
        }
        CHECK.due("only 6 by itself", port.freed(0), 6);
        CHECK.due("no single one", port.freed(1), NONE);
        port.undo();
        port.undo();
        CHECK.due("9 is 3 and 6, ahead of 4 and 5", port.freed(1), 3);
    }

    private static void order() {
        TakenNumbers port = Given.laid("n3;p3;p1;p2;k1,0,0;");
        CHECK.due("order(-2)", port.order(-2), BAD);
        CHECK.due("order(6)", port.order(6), BAD);
        CHECK.due("all can", port.order(-1), 3);
        CHECK.due("the first row", port.order(0) * 100 + port.order(1) * 10 + port.order(2), 12);
        CHECK.due("there are not so many", port.order(3), NONE);
        port = Given.laid("n4;p5;p4;p1;c4,0;k1,0,0;");
        port.speak(2);
        CHECK.due("1 is taken: 5 is 2 and 3", port.order(-1), 2);
        CHECK.due("two are left", port.order(0) * 10 + port.order(1), 1);
        CHECK.due("and no third", port.order(2), NONE);
        port = Given.laid("n4;p5;p4;p1;c4,0;k1,0,0;");
        CHECK.due("0 first takes 1 and 4", port.order(-1), 3);
        CHECK.due("so 0 waits", port.order(0) * 100 + port.order(1) * 10 + port.order(2), 102);
        port.speak(0);
        port.speak(1);
        port.speak(2);
        CHECK.due("1 and 4 are taken", port.order(-1), 0);
        CHECK.due("those who can not stand in the row too", port.order(0) * 10 + port.order(1), 12);
        port = Given.laid("n4;p4;");
        port.speak(0);
        CHECK.due("nobody is left", port.order(-1), 0);
        CHECK.due("nobody is first", port.order(0), NONE);
    }

    private static void deny() {
        TakenNumbers port = Given.laid("n6;p3;p4;p5;k0,0,0;");
        CHECK.due("deny(0, 0)", port.deny(0, 0), BAD);
        CHECK.due("deny(3, 0)", port.deny(3, 0), BAD);
        CHECK.due("deny(1, 3)", port.deny(1, 3), BAD);
        CHECK.due("deny(1, -1)", port.deny(1, -1), BAD);
        CHECK.due("one of three", port.deny(1, 0), 1);
        CHECK.due("the lowest such", port.deny(1, 1), 3);
        CHECK.due("of one: that", port.deny(1, 2), 3);
        CHECK.due("two of three", port.deny(2, 0), 2);
        CHECK.due("the lower", port.deny(2, 1), 3);
        CHECK.due("the higher", port.deny(2, 2), 4);
        port.speak(0);
        CHECK.due("3 is taken", port.deny(2, 1) * 10 + port.deny(2, 2), 45);
        port.speak(1);
        port.speak(2);
        CHECK.due("nobody can be stuck", port.deny(2, 0), 0);
        CHECK.due("the first two free ones", port.deny(2, 1) * 10 + port.deny(2, 2), 12);
        port = Given.laid("n2;p1;p5;");
        port.born();
        CHECK.due("one is free", port.deny(1, 1), 2);
        CHECK.due("not two", port.deny(2, 0), NONE);
        CHECK.due("not two, and no such what", port.deny(2, 3), BAD);
        port.born();
        CHECK.due("none is free", port.deny(1, 0), NONE);
        port = Given.laid("n24;p24;k0,0,0;");
        CHECK.due("the last of 24", port.deny(1, 1) * 10 + port.deny(1, 0), 241);
        CHECK.due("1 and the last of 24", port.deny(2, 1) * 100 + port.deny(2, 2), 124);
        port = Given.laid("n2;p9;p9;");
        CHECK.due("all are stuck by any", port.deny(2, 0) * 100 + port.deny(2, 1) * 10 + port.deny(2, 2), 212);
    }

    private static void guard() {
        TakenNumbers port = Given.laid("n6;p4;p1;p6;h4,1;h6,1;k0,0,0;");
        CHECK.due("4 would free 0, 6 would free 2", port.guard(), 4);
        port.lend(4, 0);
        CHECK.due("6 would free 2", port.guard(), 6);
        port = Given.laid("n24;p24;p1;h24,1;k0,0,0;");
        CHECK.due("the last of 24", port.guard(), 24);
        port = Given.laid("n3;p1;");
        CHECK.due("of several the lowest", port.guard(), 1);
        port.born();
        CHECK.due("of those that are free", port.guard(), 2);
        port.born();
        port.born();
        CHECK.due("all are taken", port.guard(), NONE);
    }

    private static void value() {
        TakenNumbers port = Given.laid("n6;p3;p3;p5;h3,0;k0,0,0;");
        CHECK.due("value(0)", port.value(0), BAD);
        CHECK.due("value(7)", port.value(7), BAD);
        CHECK.due("for 0 alone", port.value(3), 1);
        port.lend(3, 1);
        CHECK.due("each looked at alone", port.value(3), 2);
        CHECK.due("for nobody", port.value(1), 0);
        CHECK.due("for 2", port.value(5), 1);
        port.speak(2);
        CHECK.due("taken", port.value(5), NO);
        port = Given.laid("n6;p3;p5;k1,0,0;");
        port.speak(0);
        CHECK.due("who has said it counts: 3 by 1 and 2", port.value(1), 1);
        CHECK.due("another way is left: 5", port.value(4), 0);
    }

    private static void changed() {
        CHECK.due("all can by each", Given.laid("n6;p3;k3,0,0;").changed(), 0);
        CHECK.due("by sums", Given.laid("n6;p7;k3,0,0;").changed(), 1);
        CHECK.due("six stuck by whole, five by sums", Given.laid("n2;p3;p3;p3;p3;p3;p3;k0,0,0;").changed(), 1);
        CHECK.due("none by any", Given.laid("n2;p9;k2,0,0;").changed(), 0);
        TakenNumbers port = Given.laid("n4;p2;p1;k1,0,0;");
        port.born();
        CHECK.due("2, and 1 is 4 less 3", port.changed(), 2);
        port.born();
        CHECK.due("1 or 2", port.changed(), 2);
        port = Given.laid("n4;p2;p2;h2,1;h1,1;h3,1;k1,0,0;");
        CHECK.due("half of 4 for 0", port.changed(), 3);
    }

    private static void nothingChanges() {
        TakenNumbers port = Given.laid("n6;p4;p1;p6;h4,1;h6,1;k2,1,1;");
        port.speak(1);
        int stuck = port.stuck();
        port.order(0);
        port.deny(2, 0);
        port.guard();
        port.changed();
        port.corner(0, 0);
        port.year(3, 30, 0);
        port.freed(0);
        CHECK.due("stuck() as before", port.stuck(), stuck);
        CHECK.due("law(0) as before", port.law(0), 2);
        CHECK.due("taken as before", port.count(2), 1);
        CHECK.due("said as before", port.count(3), 1);
        CHECK.due("person(2, 2) as before", port.person(2, 2), 63 - 8 - 32 - 1);
        CHECK.due("undone as before", port.count(8), 1);
    }
}
