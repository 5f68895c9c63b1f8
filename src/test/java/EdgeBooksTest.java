/** The edges of promises 26 to 36: a method for each sentence that names one. */
public final class EdgeBooksTest {
    private static final Check CHECK = new Check();
    private static final int NONE = TakenNumbers.NONE, NO = TakenNumbers.NO, BAD = TakenNumbers.BAD, FULL = TakenNumbers.FULL;
    private static final int[] FAR = {Integer.MIN_VALUE, Integer.MIN_VALUE + 1, -65536, -256, -32, 256, 65536, Integer.MAX_VALUE};

    public static void main(String[] args) {
        waysOfSetsThereAre();
        waysAmount();
        waysKind();
        waysOfJustThese();
        waysByWhole();
        waysToNothingAndToTheMost();
        waysOfFewBehindMany();
        waysTakenOrNot();
        lowestOfPersonsThereAre();
        lowestOneToNinetyNine();
        enterSetsThereAre();
        sixRowsAtMost();
        enterBadAheadOfFull();
        closeTellsHowMany();
        bookRowsThereAre();
        bookOfNoRows();
        bookNoTwoOfOne();
        bookByTheLaw();
        bookSure();
        bookFull();
        twiceOfFewRows();
        twiceTheLowest();
        cornerOfPersonsThereAre();
        cornerWhat();
        cornerOfWhoHasSaid();
        cornerNone();
        cornerLowestOfSeveral();
        cornerOfOthersAlone();
        cornerOneToNinetyNine();
        yearBySeeds();
        yearOfDays();
        yearWhat();
        yearOfOneAndOfSix();
        yearChangesNothing();
        keepTwo();
        keepWhatIs();
        backNothing();
        backAsKeptLast();
        backLeavesWordsBookAndText();
        countWhat();
        countNoneAndAll();
        refusedChangesNothing();
        CHECK.end();
    }

    // ---- promise 26

    /** "sets of NUMBERS: of such"; "one at least" */
    private static void waysOfSetsThereAre() {
        for (int n = 1; n <= 24; n++) {
            TakenNumbers port = Given.laid("n" + n + ";p1;");
            int all = (1 << n) - 1;
            CHECK.due("no number of " + n, port.ways(0, 0, 1), BAD);
            CHECK.due("the first of " + n, port.ways(1, 1, 1), 1);
            CHECK.due("the last of " + n, port.ways(1 << n - 1, n, 1), 1);
            CHECK.due("all of " + n, port.ways(all, n * (n + 1) / 2 % 100, 1), n <= 13 ? 1 : 0);
            CHECK.due("one beyond " + n, port.ways(1 << n, 1, 1), BAD);
            CHECK.due("all, and one beyond " + n, port.ways(all + 1 + all, 1, 1), BAD);
            CHECK.due("bit 31", port.ways(1 << 31, 1, 1), BAD);
            CHECK.due("bit 31 and the first", port.ways(1 << 31 | 1, 1, 1), BAD);
            CHECK.due("all bits", port.ways(-1, 1, 1), BAD);
            CHECK.due("all bits but 31", port.ways(Integer.MAX_VALUE, 1, 1), BAD);
        }
    }

    /** "that come to an amount (0 to 99)" */
    private static void waysAmount() {
        TakenNumbers port = Given.laid("n14;p1;");
        int fourOn = (1 << 14) - 8;
        CHECK.due("amount -1", port.ways(fourOn, -1, 1), BAD);
        CHECK.due("amount 0", port.ways(fourOn, 0, 1), 0);
        CHECK.due("amount 98", port.ways(fourOn, 98, 1), 0);
        CHECK.due("amount 99: 4 to 14", port.ways(fourOn, 99, 1), 1);
        CHECK.due("amount 100", port.ways(fourOn, 100, 1), BAD);
        for (int far : FAR) {
            CHECK.due("amount " + far, port.ways(fourOn, far, 1), BAD);
        }
    }

    /** "BAD (k 0 to 3)" */
    private static void waysKind() {
        TakenNumbers port = Given.laid("n2;p1;");
        int[] answers = {BAD, BAD, 0, 0, 0, 1, BAD, BAD};
        for (int k = -2; k <= 5; k++) {
            CHECK.due("half of 2 by " + k, port.ways(2, 1, k), answers[k + 2]);
        }
        for (int far : FAR) {
            CHECK.due("by " + far, port.ways(2, 1, far), BAD);
        }
    }

    /** "of just the NUMBERS of a set": all of them, in each USE that the KIND has. */
    private static void waysOfJustThese() {
        TakenNumbers port = Given.laid("n6;p1;");
        CHECK.due("4 is not all of 2 and 4", port.ways(2 + 8, 4, 1), 0);
        CHECK.due("6 is all of 2 and 4", port.ways(2 + 8, 6, 1), 1);
        CHECK.due("2 is 4 less 2", port.ways(2 + 8, 2, 2), 1);
        CHECK.due("3 is half of 2 and half of 4", port.ways(2 + 8, 3, 3), 1);
        CHECK.due("0 is half of 4 less 2", port.ways(2 + 8, 0, 3), 1);
        CHECK.due("1 has no half", port.ways(1, 0, 3), 0);
        CHECK.due("3 has no half", port.ways(4, 1, 3), 0);
        CHECK.due("3 by 3", port.ways(4, 3, 3), 1);
    }

    /** "By WHOLE it is one NUMBER by AND" */
    private static void waysByWhole() {
        TakenNumbers port = Given.laid("n24;p1;");
        CHECK.due("24", port.ways(1 << 23, 24, 0), 1);
        CHECK.due("24 is not 23", port.ways(1 << 23, 23, 0), 0);
        CHECK.due("half of 24", port.ways(1 << 23, 12, 0), 0);
        CHECK.due("1 and 2", port.ways(3, 3, 0), 0);
        CHECK.due("nothing", port.ways(1, 0, 0), 0);
        CHECK.due("all", port.ways((1 << 24) - 1, 99, 0), 0);
    }

    private static void waysToNothingAndToTheMost() {
        TakenNumbers port = Given.laid("n24;p1;");
        int all = (1 << 24) - 1;
        CHECK.due("1 less 1 can not be", port.ways(1, 0, 2), 0);
        CHECK.due("1 and 2 less 3, and the other way", port.ways(7, 0, 2), 2);
        CHECK.due("half of 2 less 1, less 2 and 1 not", port.ways(3, 0, 3), 1);
        CHECK.due("300 is even, so is what signs make of it", port.ways(all, 99, 2), 0);
        long[] due = waysOf24(2);
        long[] halves = waysOf24(3);
        for (int amount : new int[] {0, 1, 2, 50, 98, 99}) {
            CHECK.due(amount + " of all by signs", port.ways(all, amount, 2), due[300 + amount]);
            CHECK.due(amount + " of all by halves", port.ways(all, amount, 3), halves[300 + amount]);
        }
    }

    /** What was reckoned for many NUMBERS is not answered for few. */
    private static void waysOfFewBehindMany() {
        TakenNumbers port = Given.laid("n24;p1;");
        int all = (1 << 24) - 1;
        for (int set : new int[] {1, 3, 7, 1 << 23}) {
            CHECK.that("many", port.ways(all, 99, 3) > 0);
            CHECK.due("99 of set " + set, port.ways(set, 99, 3), 0);
            CHECK.due("25 of set " + set, port.ways(set, 25, 3), 0);
            CHECK.due("99 of set " + set + ", once more", port.ways(set, 99, 3), 0);
        }
    }

    /** For each sum, and 300, in how many ways 1 to 24 come to it. */
    private static long[] waysOf24(int kind) {
        long[] ways = new long[601];
        ways[300] = 1;
        for (int x = 1; x <= 24; x++) {
            long[] next = new long[601];
            for (int sum = 0; sum <= 600; sum++) {
                if (ways[sum] > 0) {
                    next[sum + x] += ways[sum];
                    next[sum - x] += ways[sum];
                    next[sum + x / 2] += kind == 3 && x % 2 == 0 ? ways[sum] : 0;
                }
            }
            ways = next;
        }
        return ways;
    }

    /** "TAKEN or not, whosever they are" */
    private static void waysTakenOrNot() {
        TakenNumbers port = Given.laid("n3;p1;p2;h2,0;h3,1;k0,1,1;");
        int before = port.ways(7, 6, 1);
        port.born();
        port.born();
        port.lend(3, 0);
        CHECK.due("1 to 3 are 6", before, 1);
        CHECK.due("taken, lent", port.ways(7, 6, 1), 1);
        CHECK.due("by the kind that is asked, not by the law", port.ways(3, 3, 1), 1);
        CHECK.due("by the law's", port.ways(3, 3, 0), 0);
    }

    // ---- promise 27

    private static void lowestOfPersonsThereAre() {
        TakenNumbers port = Given.laid("n3;p3;p3;p3;");
        for (int i = -2; i <= 8; i++) {
            CHECK.due("lowest(" + i + ") of three", port.lowest(i), i >= 0 && i < 3 ? 7 : BAD);
        }
        for (int far : FAR) {
            CHECK.due("lowest(" + far + ")", port.lowest(far), BAD);
        }
        TakenNumbers six = Given.laid("n1;p3;p3;p3;p3;p3;p3;");
        CHECK.due("lowest(5) of six", six.lowest(5), 2);
        CHECK.due("lowest(6) of six", six.lowest(6), BAD);
        CHECK.due("lowest(32) of six", six.lowest(32), BAD);
    }

    /** "the lowest amount (1 to 99) for which a PERSON has no BEST; none" */
    private static void lowestOneToNinetyNine() {
        TakenNumbers port = Given.laid("n1;p1;p1;h1,0;");
        CHECK.due("2 for whose 1 is", port.lowest(0), 2);
        CHECK.due("1 for another", port.lowest(1), 1);
        port.born();
        CHECK.due("1, all is taken", port.lowest(0), 1);
        CHECK.due("98 can be said, 99 not", Given.laid("n14;p3;p3;h7,1;").lowest(0), 99);
        CHECK.due("97 can be said, 98 not", Given.laid("n14;p3;p3;h8,1;").lowest(0), 98);
        CHECK.due("99 can be said, 100 not", Given.laid("n14;p3;p3;h6,1;").lowest(0), NONE);
        CHECK.due("all of 14", Given.laid("n14;p3;").lowest(0), NONE);
        CHECK.due("all of 24 by halves", Given.laid("n24;p3;k3,0,0;").lowest(0), NONE);
        CHECK.due("25 by whole", Given.laid("n24;p3;k0,0,0;").lowest(0), 25);
    }

    // ---- promise 28

    /** "BAD (0, too)" */
    private static void enterSetsThereAre() {
        for (int n : new int[] {1, 9, 24}) {
            int all = (1 << n) - 1;
            int[] fine = {1, 1 << n - 1, all};
            for (int set : fine) {
                CHECK.due("enter(" + set + ") of " + n, Given.laid("n" + n + ";p1;").enter(set), 1);
            }
            int[] bad = {0, 1 << n, 1 << n | 1, -1, 1 << 31, 1 << 31 | 1, 1 << 30, Integer.MAX_VALUE, -2};
            TakenNumbers port = Given.laid("n" + n + ";p1;");
            for (int set : bad) {
                CHECK.due("enter(" + set + ") of " + n, port.enter(set), BAD);
            }
            CHECK.due("no rows", port.count(7), 0);
        }
    }

    /** "of rows (6 at most)" */
    private static void sixRowsAtMost() {
        TakenNumbers port = new TakenNumbers();
        for (int k = 1; k <= 6; k++) {
            CHECK.due("row " + k, port.enter(k), k);
        }
        CHECK.due("the 7th", port.enter(7), FULL);
        CHECK.due("six rows", port.count(7), 6);
        CHECK.due("close()", port.close(), 6);
        CHECK.due("the first of others", port.enter(7), 1);
    }

    private static void enterBadAheadOfFull() {
        TakenNumbers port = new TakenNumbers();
        for (int k = 1; k <= 6; k++) {
            port.enter(1);
        }
        CHECK.due("enter(0), full", port.enter(0), BAD);
        CHECK.due("enter(512), full", port.enter(512), BAD);
        CHECK.due("enter(511), full", port.enter(511), FULL);
    }

    // ---- promise 29

    /** "No BOOK: how many rows it had" */
    private static void closeTellsHowMany() {
        TakenNumbers port = new TakenNumbers();
        for (int many = 0; many <= 6; many++) {
            for (int k = 0; k < many; k++) {
                port.enter(1);
            }
            CHECK.due("close() of " + many, port.close(), many);
            CHECK.due("no rows", port.count(7), 0);
            CHECK.due("nothing is twice", port.twice(), NONE);
            CHECK.due("no row 0", port.book(0), BAD);
        }
        CHECK.due("close() once more", port.close(), 0);
    }

    // ---- promise 30

    /** "READINGS (row = -1), SURE of a row (NONE). BAD." */
    private static void bookRowsThereAre() {
        TakenNumbers port = Given.laid("n6;p1;p2;p3;p4;p5;p6;k0,1,1;");
        for (int rows = 0; rows <= 6; rows++) {
            for (int row = -3; row <= 8; row++) {
                int due = row < -1 || row >= rows ? BAD : row == -1 ? 1 : row;
                CHECK.due("book(" + row + ") of " + rows, port.book(row), due);
            }
            port.enter(1 << rows);
        }
        for (int far : FAR) {
            CHECK.due("book(" + far + ")", port.book(far), BAD);
        }
    }

    /** Of no rows there is one way in which all are of somebody. */
    private static void bookOfNoRows() {
        TakenNumbers port = Given.laid("n2;p2;");
        CHECK.due("no rows", port.book(-1), 1);
        port.enter(2);
        CHECK.due("one row", port.book(-1), 1);
        port.close();
        CHECK.due("no rows again", port.book(-1), 1);
        port.enter(1);
        CHECK.due("another row, of nobody", port.book(-1), 0);
        CHECK.due("sure of none", port.book(0), NONE);
    }

    /** "all rows can be of PERSONS, no two of one" */
    private static void bookNoTwoOfOne() {
        TakenNumbers port = Given.laid("n3;p3;p3;k1,1,1;");
        port.enter(4);
        CHECK.due("one row of two", port.book(-1), 2);
        port.enter(3);
        CHECK.due("two rows of two", port.book(-1), 2);
        port.enter(4);
        CHECK.due("three rows of two", port.book(-1), 0);
        CHECK.due("sure of none", port.book(2), NONE);
        TakenNumbers one = Given.laid("n3;p3;p6;k1,1,1;");
        one.enter(4);
        one.enter(3);
        CHECK.due("two rows of one", one.book(-1), 0);
        CHECK.due("sure of none", one.book(0), NONE);
    }

    /** "if there is a WAY by the LAW in which it comes to what he has to say" */
    private static void bookByTheLaw() {
        int[] sets = {4, 3, 8 + 1, 32};
        int[][] due = {{1, 0, 0, 0}, {1, 1, 0, 0}, {1, 1, 1, 0}, {1, 1, 1, 1}};
        for (int kind = 0; kind <= 3; kind++) {
            for (int k = 0; k < sets.length; k++) {
                TakenNumbers port = Given.laid("n6;p3;k" + kind + ",1,1;");
                port.enter(sets[k]);
                CHECK.due("set " + sets[k] + " by " + kind, port.book(-1), due[kind][k]);
                CHECK.due("of whom", port.book(0), due[kind][k] == 1 ? 0 : NONE);
            }
        }
        TakenNumbers taken = Given.laid("n3;p1;p3;h3,0;");
        taken.born();
        taken.enter(4);
        CHECK.due("whosever it is", taken.book(0), 1);
        taken.enter(1);
        CHECK.due("taken or not", taken.book(1), 0);
    }

    /** "the PERSON of whom it is in each of these; none (no way, too)" */
    private static void bookSure() {
        TakenNumbers port = Given.laid("n4;p3;p3;p4;p1;k1,1,1;");
        port.enter(4);
        CHECK.due("0 or 1", port.book(0), NONE);
        port.enter(8);
        CHECK.due("of 2", port.book(1), 2);
        port.enter(5);
        CHECK.due("1 and 3 is of 2, too: no way", port.book(-1), 0);
        CHECK.due("no way: sure of none", port.book(1), NONE);
        TakenNumbers last = Given.laid("n6;p6;p6;p6;p6;p6;p5;k1,1,1;");
        last.enter(16);
        CHECK.due("the last person", last.book(0), 5);
        TakenNumbers forced = Given.laid("n4;p2;p3;k3,1,1;");
        forced.enter(8 + 1);
        forced.enter(8);
        CHECK.due("half of 4 is 0's alone", forced.book(1), 0);
        CHECK.due("4 less 1, or half of 4 and 1: 1's", forced.book(0), 1);
        CHECK.due("one reading, though of several ways", forced.book(-1), 1);
    }

    private static void bookFull() {
        TakenNumbers port = Given.laid("n3;p3;p3;p3;p3;p3;p3;k1,1,1;");
        int[] due = {6, 30, 120, 360, 720, 720};
        for (int rows = 1; rows <= 6; rows++) {
            port.enter(rows % 2 == 0 ? 3 : 4);
            CHECK.due("readings of " + rows, port.book(-1), due[rows - 1]);
            CHECK.due("not sure", port.book(rows - 1), NONE);
        }
    }

    // ---- promise 31

    /** "the lowest NUMBER that is in two rows or more; none": of no row, of one, of six. */
    private static void twiceOfFewRows() {
        TakenNumbers port = Given.laid("n24;p1;");
        CHECK.due("no rows", port.twice(), NONE);
        port.enter((1 << 24) - 1);
        CHECK.due("one row of all", port.twice(), NONE);
        port.enter(1 << 23);
        CHECK.due("24 in two", port.twice(), 24);
        port.close();
        for (int k = 0; k < 6; k++) {
            port.enter(1 << k | 1 << 23 - k);
            CHECK.due("no number twice", port.twice(), NONE);
        }
    }

    private static void twiceTheLowest() {
        TakenNumbers port = Given.laid("n24;p1;");
        port.enter(1);
        port.enter(1 << 22 | 1 << 21);
        port.enter(1 << 22);
        CHECK.due("23", port.twice(), 23);
        port.enter(1 << 21);
        CHECK.due("22", port.twice(), 22);
        port.enter(2);
        port.enter(3);
        CHECK.due("1, in the first row and the last", port.twice(), 1);
    }

    // ---- promise 32

    private static void cornerOfPersonsThereAre() {
        TakenNumbers port = Given.laid("n3;p3;p3;p3;");
        for (int i = -2; i <= 8; i++) {
            CHECK.that("corner(" + i + ", 0) of three", port.corner(i, 0) == BAD == (i < 0 || i > 2));
        }
        for (int far : FAR) {
            CHECK.due("corner(" + far + ", 0)", port.corner(far, 0), BAD);
        }
        CHECK.due("corner(32, 0)", port.corner(32, 0), BAD);
    }

    /** "the amount (what = 0), how many (1)" */
    private static void cornerWhat() {
        TakenNumbers port = Given.laid("n3;p1;p2;p3;k0,1,1;");
        int[] answers = {BAD, BAD, 2, 1, BAD, BAD};
        for (int what = -2; what <= 3; what++) {
            CHECK.due("corner(0, " + what + ")", port.corner(0, what), answers[what + 2]);
        }
        for (int far : FAR) {
            CHECK.due("corner(0, " + far + ")", port.corner(0, far), BAD);
        }
    }

    /** "NO: he has SAID what he has to say": ahead of NONE, behind BAD. */
    private static void cornerOfWhoHasSaid() {
        TakenNumbers port = Given.laid("n1;p1;p1;");
        port.speak(0);
        CHECK.due("he has, and nothing is left", port.corner(0, 0), NO);
        CHECK.due("how many", port.corner(0, 1), NO);
        CHECK.due("no such what", port.corner(0, 2), BAD);
        CHECK.due("who has not, and nothing is left", port.corner(1, 0), NONE);
        CHECK.due("how many", port.corner(1, 1), NONE);
        port.undo();
        CHECK.due("undone", port.corner(0, 0), 1);
    }

    private static void cornerNone() {
        TakenNumbers port = Given.laid("n1;p1;p1;h1,1;");
        CHECK.due("he may use none", port.corner(0, 0), NONE);
        CHECK.due("no such what", port.corner(0, 2), BAD);
        port.lend(1, 0);
        CHECK.due("1 is lent to him", port.corner(0, 0) * 10 + port.corner(0, 1), 11);
        port.born();
        CHECK.due("1 is taken", port.corner(0, 0), NONE);
    }

    /** "of several the lowest" */
    private static void cornerLowestOfSeveral() {
        TakenNumbers alone = Given.laid("n3;p3;");
        CHECK.due("nobody else: the lowest he can say", alone.corner(0, 0) * 10 + alone.corner(0, 1), 10);
        alone.born();
        CHECK.due("without 1", alone.corner(0, 0) * 10 + alone.corner(0, 1), 20);
        TakenNumbers port = Given.laid("n9;p1;p5;p7;k0,1,1;");
        CHECK.due("5 or 7", port.corner(0, 0) * 10 + port.corner(0, 1), 51);
        port.speak(1);
        CHECK.due("7", port.corner(0, 0) * 10 + port.corner(0, 1), 71);
        port.speak(2);
        CHECK.due("all others have said it", port.corner(0, 0) * 10 + port.corner(0, 1), 10);
    }

    /** "most others would be STUCK": he himself is not counted, others who are stuck anyway are. */
    private static void cornerOfOthersAlone() {
        TakenNumbers port = Given.laid("n2;p9;p9;p2;k0,1,1;");
        CHECK.due("1 is stuck anyway, 2 by 2", port.corner(0, 0) * 10 + port.corner(0, 1), 22);
        CHECK.due("0 and 1 are stuck anyway", port.corner(2, 0) * 10 + port.corner(2, 1), 12);
    }

    /** "of amounts (1 to 99)": five others are stuck by 98 (8, 21 to 24), 99 (9, 21 to 24), by 100 it is not asked. */
    private static void cornerOneToNinetyNine() {
        for (int last = 8; last <= 10; last++) {
            TakenNumbers port = Given.laid("n24;p1;p24;p23;p22;p21;p" + last + ";h11,5;h12,5;h13,5;h14,5;h15,5;h16,5;h17,5;h18,5;"
                    + "h19,5;h20,5;" + (last == 8 ? "h9,5;h10,5;" : last == 9 ? "h10,5;" : "h9,5;"));
            for (int k = 1; k <= 7; k++) {
                port.born();
            }
            if (last > 8) {
                port.born();
            }
            CHECK.due("how many by " + last, port.corner(0, 1), last == 10 ? 4 : 5);
            CHECK.due("the amount by " + last, port.corner(0, 0), last == 10 ? 10 + 21 + 22 + 23 : 90 + last);
        }
        TakenNumbers one = Given.laid("n1;p9;p1;");
        CHECK.due("1", one.corner(0, 0) * 10 + one.corner(0, 1), 11);
    }

    // ---- promise 33

    /** "by z (0 to 9999)": by 0 the first has to say 2 on day 0; by others as reckoned here. */
    private static void yearBySeeds() {
        TakenNumbers port = Given.laid("n24;p1;k0,1,1;");
        CHECK.due("z -1", port.year(-1, 1, 0), BAD);
        CHECK.due("z 10000", port.year(10000, 1, 0), BAD);
        for (int z : new int[] {0, 1, 2, 5000, 9998, 9999}) {
            for (int n : new int[] {1, 2, 29, 30}) {
                int times = 0;
                for (int k = 0; k < n; k++) {
                    times += drawn(z, k, 0) > 24 ? 1 : 0;
                }
                CHECK.due("times by " + z + " of " + n, port.year(z, n, 0), times);
                CHECK.due("days by " + z + " of " + n, port.year(z, n, 1), n - times);
            }
        }
        for (int far : FAR) {
            boolean fine = far >= 0 && far <= 9999;
            CHECK.that("z " + far, port.year(far, 1, 0) == BAD != fine);
        }
    }

    private static long drawn(int z, int k, int i) {
        long x = 7919L * z + 6151L * k + 101L * i + 1;
        return x * x % 65521 % 99 + 1;
    }

    /** "of n (1 to 30) days" */
    private static void yearOfDays() {
        TakenNumbers port = Given.laid("n24;p1;");
        CHECK.due("n -1", port.year(0, -1, 1), BAD);
        CHECK.due("n 0", port.year(0, 0, 1), BAD);
        CHECK.due("n 1", port.year(0, 1, 1), 1);
        CHECK.due("n 29", port.year(0, 29, 1), 29);
        CHECK.due("n 30", port.year(0, 30, 1), 30);
        CHECK.due("n 31", port.year(0, 31, 1), BAD);
        CHECK.due("n 30, times", port.year(0, 30, 0), 0);
        for (int far : FAR) {
            CHECK.due("n " + far, port.year(0, far, 1), BAD);
        }
    }

    /** "how many times (what = 0), days (1)" */
    private static void yearWhat() {
        TakenNumbers port = Given.laid("n2;p1;k0,1,1;");
        int[] answers = {BAD, BAD, 0, 1, BAD, BAD};
        for (int what = -2; what <= 3; what++) {
            CHECK.due("year(0, 1, " + what + ")", port.year(0, 1, what), answers[what + 2]);
        }
        for (int far : FAR) {
            CHECK.due("year(0, 1, " + far + ")", port.year(0, 1, far), BAD);
        }
    }

    /** "how many times one could not in all; on how many days all could" */
    private static void yearOfOneAndOfSix() {
        TakenNumbers all = Given.laid("n1;p1;p1;p1;p1;p1;p1;k0,1,1;");
        int times = 0;
        int days = 0;
        for (int k = 0; k < 30; k++) {
            int ones = 0;
            for (int i = 0; i < 6; i++) {
                ones += drawn(9999, k, i) == 1 ? 1 : 0;
            }
            times += ones > 0 ? 5 : 6;
            days += ones == 6 ? 1 : 0;
        }
        CHECK.due("times of six", all.year(9999, 30, 0), times);
        CHECK.due("days of six", all.year(9999, 30, 1), days);
        CHECK.due("none can ever", Given.laid("n1;p1;p1;h1,0;k0,1,1;").year(0, 1, 0), 2);
    }

    /** "days that begin all free, no FEASTS": whatever the day that is now. */
    private static void yearChangesNothing() {
        TakenNumbers fresh = new TakenNumbers();
        TakenNumbers busy = new TakenNumbers();
        Given.busyDay(busy);
        TakenNumbers other = new TakenNumbers();
        Given.busyDay(other);
        CHECK.due("times", busy.year(77, 30, 0), fresh.year(77, 30, 0));
        CHECK.due("days", busy.year(77, 30, 1), fresh.year(77, 30, 1));
        String differs = Seen.of(busy).differsFrom(Seen.of(other));
        CHECK.that("all is as before: " + differs, differs.isEmpty());
    }

    // ---- promise 34

    /** "2 at most" */
    private static void keepTwo() {
        TakenNumbers port = new TakenNumbers();
        CHECK.due("the first", port.keep(), 1);
        port.dusk(true);
        CHECK.due("the second", port.keep(), 2);
        port.dusk(false);
        port.born();
        CHECK.due("the third", port.keep(), FULL);
        CHECK.due("two are kept", port.count(9), 2);
        CHECK.due("back()", port.back(), 1);
        CHECK.due("to the second", port.count(5), 1);
        port.speak(0);
        CHECK.due("one more can be kept", port.keep(), 2);
        CHECK.due("and no other", port.keep(), FULL);
    }

    /** "the port as it is": taken, said, lent, births, the feast. */
    private static void keepWhatIs() {
        TakenNumbers port = new TakenNumbers();
        Given.busyDay(port);
        port.back();
        Given.rewrite(port, "p1;");
        port.lend(5, 2);
        port.speak(0);
        Seen before = Seen.of(port);
        port.keep();
        port.undo();
        port.undo();
        port.dusk(false);
        port.born();
        port.speak(3);
        port.back();
        port.keep();
        port.back();
        TakenNumbers other = new TakenNumbers();
        Given.busyDay(other);
        other.back();
        Given.rewrite(other, "p1;");
        other.lend(5, 2);
        other.speak(0);
        other.keep();
        other.back();
        String differs = Seen.of(port).differsFrom(Seen.of(other));
        CHECK.that("as kept: " + differs, differs.isEmpty());
        CHECK.that("but for what can be undone", Seen.of(port).differsFrom(before).startsWith("count(8) answers 0, not 2"));
    }

    // ---- promise 35

    private static void backNothing() {
        TakenNumbers port = new TakenNumbers();
        CHECK.due("nothing is kept", port.back(), NO);
        port.keep();
        CHECK.due("the only one", port.back(), 0);
        CHECK.due("no more", port.back(), NO);
        port.keep();
        port.keep();
        Given.rewrite(port, "p1;");
        port.lay();
        CHECK.due("laid: nothing is kept", port.back(), NO);
        CHECK.due("count(9)", port.count(9), 0);
    }

    /** "As KEPT last: how many are left; nothing is UNDONE then" */
    private static void backAsKeptLast() {
        TakenNumbers port = new TakenNumbers();
        port.born();
        port.keep();
        port.born();
        port.keep();
        port.born();
        CHECK.due("the last", port.back(), 1);
        CHECK.due("two births", port.count(4), 2);
        CHECK.due("nothing can be undone", port.count(8), 0);
        CHECK.due("undo()", port.undo(), NO);
        CHECK.due("two births still", port.count(4), 2);
        port.born();
        CHECK.due("what comes then can", port.undo(), 0);
        CHECK.due("the first", port.back(), 0);
        CHECK.due("one birth", port.count(4), 1);
        CHECK.due("no more", port.back(), NO);
        CHECK.due("one birth still", port.count(4), 1);
    }

    /** "but THE WORDS and THE BOOK" */
    private static void backLeavesWordsBookAndText() {
        TakenNumbers port = new TakenNumbers();
        Given.retell(port, 1, 1);
        port.enter(1);
        Given.rewrite(port, "p1;");
        port.keep();
        port.tell(2, 1);
        port.enter(2);
        port.enter(3);
        port.write('p');
        port.back();
        CHECK.due("words", port.count(6), 2);
        CHECK.due("rows", port.count(7), 3);
        CHECK.due("letters", port.count(10), 4);
        CHECK.due("they come to", port.words(0), 1003);
    }

    // ---- promise 36

    private static void countWhat() {
        TakenNumbers port = new TakenNumbers();
        Given.busyDay(port);
        port.write('n');
        int[] counts = {9, 4, 2, 1, 1, 0, 2, 2, 8, 2, 1};
        for (int what = -3; what <= 14; what++) {
            CHECK.due("count(" + what + ")", port.count(what), what < 0 || what > 10 ? BAD : counts[what]);
        }
        for (int far : FAR) {
            CHECK.due("count(" + far + ")", port.count(far), BAD);
        }
    }

    private static void countNoneAndAll() {
        TakenNumbers port = Given.laid("n24;p1;p2;p3;p4;p5;p6;k0,1,1;");
        int[] none = {24, 6, 0, 0, 0, 0, 0, 0, 0, 0, 29};
        for (int what = 0; what <= 10; what++) {
            CHECK.due("at first: count(" + what + ")", port.count(what), none[what]);
        }
        port.dusk(true);
        for (int i = 0; i < 6; i++) {
            port.speak(i);
            port.enter(1);
        }
        for (int x = 1; x <= 10; x++) {
            port.tell(x, 1);
        }
        port.keep();
        port.keep();
        for (int k = 29; k < 200; k++) {
            port.write(' ');
        }
        port.dusk(true);
        port.dusk(true);
        port.undo();
        port.undo();
        int[] all = {24, 6, 6, 6, 0, 1, 10, 6, 6, 2, 200};
        for (int what = 0; what <= 10; what++) {
            CHECK.due("at last: count(" + what + ")", port.count(what), all[what]);
        }
        port.dusk(false);
        for (int k = 1; k <= 24; k++) {
            port.born();
        }
        int[] births = {24, 6, 24, 0, 24, 0, 10, 6, 8, 2, 200};
        for (int what = 0; what <= 10; what++) {
            CHECK.due("with births: count(" + what + ")", port.count(what), births[what]);
        }
    }

    // ---- "nothing changes then"

    private static void refusedChangesNothing() {
        Refused busy = new Refused(CHECK, Given::busyDay);
        busy.due("ways(0, 0, 1)", BAD, port -> port.ways(0, 0, 1));
        busy.due("ways(1, 100, 1)", BAD, port -> port.ways(1, 100, 1));
        busy.due("ways(1, 1, 4)", BAD, port -> port.ways(1, 1, 4));
        busy.due("lowest(4)", BAD, port -> port.lowest(4));
        busy.due("enter(0)", BAD, port -> port.enter(0));
        busy.due("enter(512)", BAD, port -> port.enter(512));
        busy.due("book(2)", BAD, port -> port.book(2));
        busy.due("book(-2)", BAD, port -> port.book(-2));
        busy.due("corner(4, 0)", BAD, port -> port.corner(4, 0));
        busy.due("corner(1, 2)", BAD, port -> port.corner(1, 2));
        busy.due("corner(0, 0), who has said it", NO, port -> port.corner(0, 0));
        busy.due("year(10000, 1, 0)", BAD, port -> port.year(10000, 1, 0));
        busy.due("year(0, 31, 0)", BAD, port -> port.year(0, 31, 0));
        busy.due("year(0, 1, 2)", BAD, port -> port.year(0, 1, 2));
        busy.due("keep()", FULL, TakenNumbers::keep);
        busy.due("count(11)", BAD, port -> port.count(11));
        busy.due("write(31)", BAD, port -> port.write(31));
        busy.due("write(127)", BAD, port -> port.write(127));
        busy.due("number(10, 0)", BAD, port -> port.number(10, 0));
        busy.due("person(4, 0)", BAD, port -> port.person(4, 0));
        busy.due("law(3)", BAD, port -> port.law(3));
        Refused full = new Refused(CHECK, port -> {
            Given.rewrite(port, "n5;".repeat(63) + "p2;c1,9;p3;");
            port.lay();
            for (int k = 1; k <= 6; k++) {
                port.enter(k);
            }
        });
        full.due("enter(7), full", FULL, port -> port.enter(7));
        full.due("write, full", FULL, port -> port.write('p'));
        Refused plain = new Refused(CHECK, port -> port.dusk(true));
        plain.due("back(), nothing kept", NO, TakenNumbers::back);
        plain.due("twice(), no rows", NONE, TakenNumbers::twice);
        plain.due("lay(), no text", NO, TakenNumbers::lay);
    }
}
