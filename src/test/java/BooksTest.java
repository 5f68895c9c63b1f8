/** Promises 26 to 36: ways, the least amount, the book, corners, years, ports kept, counts. */
public final class BooksTest {
    private static final Check CHECK = new Check();
    private static final int NONE = TakenNumbers.NONE, NO = TakenNumbers.NO, BAD = TakenNumbers.BAD;

    public static void main(String[] args) {
        ways();
        lowest();
        bookRows();
        readings();
        twice();
        corner();
        cornerByTheMost();
        year();
        keepAndBack();
        counts();
        CHECK.end();
    }

    private static void ways() {
        TakenNumbers port = Given.laid("n24;p3;h5,0;k0,0,0;");
        CHECK.due("whole, of one", port.ways(16, 5, 0), 1);
        CHECK.due("whole, another amount", port.ways(16, 4, 0), 0);
        CHECK.due("whole, of two", port.ways(3, 3, 0), 0);
        CHECK.due("sums", port.ways(7, 6, 1), 1);
        CHECK.due("sums: all of them", port.ways(7, 5, 1), 0);
        CHECK.due("sums of one", port.ways(4, 3, 1), 1);
        CHECK.due("signs come to nothing", port.ways(7, 0, 2), 2);
        CHECK.due("one less can not come to it", port.ways(4, 3, 2), 1);
        CHECK.due("halves: 2, and half of 4", port.ways(10, 4, 3), 1);
        CHECK.due("halves: half of 2, and 4", port.ways(10, 5, 3), 1);
        CHECK.due("halves: less 2, and half of 4", port.ways(10, 0, 3), 1);
        CHECK.due("all of 24 by halves", port.ways((1 << 24) - 1, 3, 3), 12309874);
        CHECK.due("one between", port.ways(1, 1, 3), 1);
        CHECK.due("all of 24 once more", port.ways((1 << 24) - 1, 3, 3), 12309874);
        CHECK.due("beyond 99", port.ways((1 << 24) - 1, 99, 1), 0);
        port.born();
        CHECK.due("taken or not", port.ways(1, 1, 0), 1);
        CHECK.due("no set", port.ways(0, 0, 1), BAD);
        CHECK.due("beyond the numbers", port.ways(1 << 24, 0, 1), BAD);
        CHECK.due("less than no set", port.ways(-1, 0, 1), BAD);
        CHECK.due("amount -1", port.ways(1, -1, 1), BAD);
        CHECK.due("amount 100", port.ways(1, 100, 1), BAD);
        CHECK.due("kind 4", port.ways(1, 1, 4), BAD);
        CHECK.due("kind -1", port.ways(1, 1, -1), BAD);
    }

    private static void lowest() {
        TakenNumbers port = Given.laid("n5;p3;p3;h5,0;k1,0,0;");
        CHECK.due("1 to 15", port.lowest(0), 16);
        CHECK.due("without 5", port.lowest(1), 11);
        port.born();
        CHECK.due("without 1", port.lowest(0), 1);
        CHECK.due("lowest(2)", port.lowest(2), BAD);
        CHECK.due("lowest(-1)", port.lowest(-1), BAD);
        CHECK.due("whole", Given.laid("n5;p3;k0,0,0;").lowest(0), 6);
        CHECK.due("1 to 91", Given.laid("n13;p3;").lowest(0), 92);
        CHECK.due("1 to 98", Given.laid("n14;p3;p3;h7,1;").lowest(0), 99);
        CHECK.due("there is none", Given.laid("n14;p3;").lowest(0), NONE);
        port = Given.laid("n6;p1;k2,0,0;");
        port.speak(0);
        CHECK.due("1 is 3 less 2, of 20 all but 1 can not be", port.lowest(0), 19);
    }

    private static void bookRows() {
        TakenNumbers port = Given.laid("n4;p3;");
        CHECK.due("enter(0)", port.enter(0), BAD);
        CHECK.due("enter(16)", port.enter(16), BAD);
        CHECK.due("enter(-1)", port.enter(-1), BAD);
        CHECK.due("close() without rows", port.close(), 0);
        for (int k = 1; k <= 6; k++) {
            CHECK.due("enter(15)", port.enter(15), k);
        }
        CHECK.due("the 7th", port.enter(15), TakenNumbers.FULL);
        CHECK.due("a bad one, full", port.enter(0), BAD);
        CHECK.due("count(7)", port.count(7), 6);
        CHECK.due("more rows than persons", port.book(-1), 0);
        CHECK.due("sure of none", port.book(5), NONE);
        CHECK.due("close()", port.close(), 6);
        CHECK.due("count(7), closed", port.count(7), 0);
        CHECK.due("book(0), closed", port.book(0), BAD);
    }

    private static void readings() {
        TakenNumbers port = Given.laid("n6;p3;p3;p6;h3,0;k1,0,0;");
        CHECK.due("no rows: one way", port.book(-1), 1);
        CHECK.due("book(-2)", port.book(-2), BAD);
        port.enter(3);
        CHECK.due("1 and 2, of 0 or 1", port.book(-1), 2);
        CHECK.due("not sure", port.book(0), NONE);
        CHECK.due("book(1)", port.book(1), BAD);
        port.enter(32);
        CHECK.due("6 is of 2", port.book(1), 2);
        CHECK.due("two ways still", port.book(-1), 2);
        port.enter(4);
        CHECK.due("3 is of the other, whosever it is", port.book(-1), 2);
        port.enter(1);
        CHECK.due("1 is of nobody", port.book(-1), 0);
        CHECK.due("no way, sure of none", port.book(1), NONE);
        port = Given.laid("n6;p3;p6;p3;k2,0,0;");
        port.enter(32 + 4);
        CHECK.due("6 less 3", port.book(-1), 2);
        port.enter(7);
        CHECK.due("6 is 1 and 2 and 3", port.book(1), 1);
        port = Given.laid("n6;p3;p4;k2,0,0;");
        port.enter(32 + 4);
        CHECK.due("sure of the only one", port.book(0), 0);
        port = Given.laid("n3;p3;p3;p3;p3;p3;p3;k0,0,0;");
        for (int k = 0; k < 6; k++) {
            port.enter(4);
        }
        CHECK.due("all ways", port.book(-1), 720);
        CHECK.due("nobody is sure", port.book(5), NONE);
        port = Given.laid("n4;p4;p3;p4;");
        port.enter(8);
        port.enter(4);
        port.enter(5);
        CHECK.due("two of 4, one of 3", port.book(-1) * 10 + port.book(1), 21);
    }

    private static void twice() {
        TakenNumbers port = Given.laid("n24;p3;");
        CHECK.due("no rows", port.twice(), NONE);
        port.enter(1 << 23 | 8);
        CHECK.due("one row", port.twice(), NONE);
        port.enter(7);
        CHECK.due("nothing twice", port.twice(), NONE);
        port.enter(1 << 23);
        CHECK.due("24 is", port.twice(), 24);
        port.enter(12);
        CHECK.due("3 and 4 are", port.twice(), 3);
        port.enter(12);
        CHECK.due("in three rows", port.twice(), 3);
    }

    private static void corner() {
        TakenNumbers port = Given.laid("n4;p1;p3;p4;k0,0,0;");
        CHECK.due("corner(3, 0)", port.corner(3, 0), BAD);
        CHECK.due("corner(-1, 0)", port.corner(-1, 0), BAD);
        CHECK.due("corner(0, 2)", port.corner(0, 2), BAD);
        CHECK.due("corner(0, -1)", port.corner(0, -1), BAD);
        CHECK.due("he takes 3", port.corner(0, 0), 3);
        CHECK.due("one is stuck", port.corner(0, 1), 1);
        CHECK.due("others alone count: 1 takes 1", port.corner(1, 0), 1);
        port.speak(0);
        CHECK.due("he has said it", port.corner(0, 0), NO);
        CHECK.due("he has said it, and no such what", port.corner(0, 2), BAD);
        CHECK.due("0 can not be stuck any more: 4", port.corner(1, 0), 4);
        port.speak(1);
        port.speak(2);
        CHECK.due("all but 2 are taken", port.lowest(0), 1);
        port = Given.laid("n2;p1;p9;p2;h1,1;h2,2;k1,0,0;");
        CHECK.due("there is nothing he can say", port.corner(0, 0), NONE);
        CHECK.due("nor how many", port.corner(0, 1), NONE);
        port = Given.laid("n4;p4;p4;k1,0,0;");
        CHECK.due("4 by 4 leaves 1 and 3; 7 is 3 and 4", port.corner(0, 0) * 10 + port.corner(0, 1), 51);
    }

    /** 99 is 9, 21, 22, 23 and 24, which five others need; 1 to 8 are taken, the rest is of one who can not use it. */
    private static void cornerByTheMost() {
        TakenNumbers port = Given.laid("n24;p1;p24;p23;p22;p21;p9;h10,5;h11,5;h12,5;h13,5;h14,5;h15,5;h16,5;h17,5;h18,5;h19,5;h20,5;");
        for (int k = 1; k <= 8; k++) {
            port.born();
        }
        CHECK.due("the most he can say", port.corner(0, 0), 99);
        CHECK.due("all others are stuck", port.corner(0, 1), 5);
    }

    /** By z = 0 a first day's person has to say 1 mod 99, and 1: 2; the next (102 * 102) mod 65521 mod 99, and 1: 10. */
    private static void year() {
        TakenNumbers port = Given.laid("n2;p50;p50;k0,0,0;");
        CHECK.due("year(-1, 1, 0)", port.year(-1, 1, 0), BAD);
        CHECK.due("year(10000, 1, 0)", port.year(10000, 1, 0), BAD);
        CHECK.due("year(0, 0, 0)", port.year(0, 0, 0), BAD);
        CHECK.due("year(0, 31, 0)", port.year(0, 31, 0), BAD);
        CHECK.due("year(0, 1, 2)", port.year(0, 1, 2), BAD);
        CHECK.due("year(0, 1, -1)", port.year(0, 1, -1), BAD);
        CHECK.due("2 can be said, 10 not", port.year(0, 1, 0), 1);
        CHECK.due("not all could", port.year(0, 1, 1), 0);
        CHECK.due("2 and 10", Given.laid("n10;p50;p50;k0,0,0;").year(0, 1, 1), 1);
        TakenNumbers owned = Given.laid("n10;p50;p50;h10,0;k0,0,0;");
        CHECK.due("10 is of 0", owned.year(0, 1, 0), 1);
        owned.lend(10, 1);
        CHECK.due("nothing is lent on such days", owned.year(0, 1, 0), 1);
        TakenNumbers busy = Given.laid("n10;p50;p50;k0,0,0;");
        busy.born();
        busy.born();
        CHECK.due("they begin all free", busy.year(0, 1, 0), 0);
        busy.dusk(true);
        CHECK.due("no feasts", busy.year(0, 1, 1), 1);
        TakenNumbers said = Given.laid("n10;p3;p4;k0,0,0;");
        said.speak(0);
        said.speak(1);
        CHECK.due("all speak", said.year(0, 1, 0), 0);
        CHECK.due("with what they had to say as before", said.person(0, 0), 3);
        CHECK.due("as told: times", Given.laid("n8;p6;p6;p6;k2,9,0;c1,9;c2,9;c3,9;").year(9999, 30, 0), 57);
        CHECK.due("as told: days", Given.laid("n8;p6;p6;p6;k2,9,0;c1,9;c2,9;c3,9;").year(9999, 30, 1), 1);
    }

    private static void keepAndBack() {
        TakenNumbers port = Given.laid("n9;p3;p4;h9,0;");
        CHECK.due("back() without", port.back(), NO);
        port.lend(9, 1);
        port.speak(0);
        CHECK.due("keep()", port.keep(), 1);
        CHECK.due("what was done can still be undone", port.count(8), 2);
        port.dusk(true);
        CHECK.due("keep() the next", port.keep(), 2);
        CHECK.due("keep() a third", port.keep(), TakenNumbers.FULL);
        port.dusk(false);
        port.born();
        port.tell(1, 1);
        port.enter(3);
        CHECK.due("back()", port.back(), 1);
        CHECK.due("the feast", port.count(5), 1);
        CHECK.due("no births", port.count(4), 0);
        CHECK.due("nothing is undone then", port.undo(), NO);
        CHECK.due("the words are not kept", port.count(6), 1);
        CHECK.due("nor is the book", port.count(7), 1);
        port.born();
        CHECK.due("back() to the first", port.back(), 0);
        CHECK.due("0 has said it", port.person(0, 1), 1);
        CHECK.due("9 is lent", port.number(9, 3), 1);
        CHECK.due("3 is taken", port.number(3, 2), 0);
        CHECK.due("no feast", port.count(5), 0);
        CHECK.due("no more", port.back(), NO);
        port.speak(1);
        CHECK.due("keep() again", port.keep(), 1);
        CHECK.due("undo() goes on", port.undo(), 0);
        CHECK.due("back() brings it again", port.back() + port.person(1, 1), 1);
    }

    private static void counts() {
        TakenNumbers port = Given.laid("n9;p3;p4;h9,0;");
        port.born();
        port.lend(9, 1);
        port.speak(0);
        port.keep();
        port.tell(5, 1);
        port.tell(6, 1);
        port.enter(1);
        int[] counts = {9, 2, 2, 1, 1, 0, 2, 1, 3, 1, 14};
        for (int what = 0; what < counts.length; what++) {
            CHECK.due("count(" + what + ")", port.count(what), counts[what]);
        }
        CHECK.due("count(11)", port.count(11), BAD);
        CHECK.due("count(-1)", port.count(-1), BAD);
        port.dusk(true);
        CHECK.due("count(5) on a feast", port.count(5), 1);
    }
}
