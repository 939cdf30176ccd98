/** Promises 24 to 30: who lied, what was said, deaf ones, years, what is kept, counts. */
public final class YearsTest {
    private static final int BAD = -1, NO = -2, FULL = -3, NONE = -4;
    private static final int MIN = Integer.MIN_VALUE, MAX = Integer.MAX_VALUE;
    private static final Check check = new Check("YearsTest");

    public static void main(String[] args) {
        promise24();
        promise24Ties();
        promise25();
        promise26();
        promise26Refuses();
        promise27();
        promise27Refuses();
        promise28();
        promise29();
        promise30();
        check.end();
    }

    private static StoneApologies allOut(String promises) {
        StoneApologies x = Check.laid("b0,1;b1,1;b2,1;b3,1;b0,60;w9;s0,1;s1,1;s2,1;s3,1;" + promises);
        x.pass(1);
        return x;
    }

    private static void promise24() {
        check.due("at first", new StoneApologies().liars(), 0);
        StoneApologies x = allOut("p0,0,3;p1,0,5;p2,1,6;p0,3,1;p3,4,1;");
        check.due("none cracked", x.liars(), 0);
        x.take(0, 3);
        check.due("the second one", x.liars(), 2);
        x.undo();
        x.take(0, 5);
        check.due("the first one", x.liars(), 1);
        x.undo();
        x.take(0, 0);
        check.due("both: the lower", x.liars(), 1);
        x.take(3, 5);
        check.due("chalk does not crack", x.liars(), 1);
        int[] ahead = Check.sight(x);
        x.take(1, 6);
        check.due("placed as promised", x.liars(), 1);
        x.undo();
        check.dueRow("undone", Check.sight(x), ahead);
        x.take(1, 0);
        check.due("two blocks, two liars", x.liars(), 5);
    }

    private static void promise24Ties() {
        StoneApologies x = allOut("p0,0,1;p3,0,1;p1,1,1;p3,1,1;p2,2,1;p3,2,1;");
        x.take(0, 0);
        x.take(1, 0);
        check.due("one is fewer than two", x.liars(), 8);
        x.take(2, 0);
        check.due("one is fewer than three", x.liars(), 8);
        StoneApologies y = allOut("p0,0,1;p1,0,1;p1,1,1;p2,1,1;p2,2,1;p0,2,1;");
        for (int b = 0; b < 3; b++) y.take(b, 7);
        check.due("of three pairs the lowest", y.liars(), 3);
        StoneApologies z = allOut("p0,0,1;p1,1,1;p2,2,1;p3,0,2;");
        for (int b = 0; b < 3; b++) z.take(b, 2);
        check.due("three", z.liars(), 7);
    }

    private static void said(StoneApologies x, int b, int v, int many, int first) {
        check.due("said(" + b + ", " + v + ", 0)", x.said(b, v, 0), many);
        check.due("said(" + b + ", " + v + ", 1)", x.said(b, v, 1), first);
    }

    private static void promise25() {
        StoneApologies x = Check.laid("b0,60;b3,60;b2,60;b0,1;w7;w17;w3;w7;s0,1;s1,1;s3,1;");
        int[] ahead = Check.sight(x);
        said(x, 0, 7, 3, 0);
        said(x, 0, 14, 2, 10);
        said(x, 0, 10, 1, 20);
        said(x, 0, 17, 2, 1);
        said(x, 0, 0, 0, NONE);
        said(x, 1, 0, 3, 2);
        said(x, 2, 51, 2, 1);
        said(x, 2, 99, 0, NONE);
        check.dueRow("behind said", Check.sight(x), ahead);
        x.say(0, 0, 0);
        check.due("no hour left", x.speaker(0, 2), 0);
        said(x, 0, 7, 2, 3);
        said(x, 0, 6, 2, 0);
        said(x, 0, 13, 1, 10);
        x.say(1, 3, 0);
        check.due("out", x.said(3, 7, 0), NO);
        check.due("out, bad", x.said(3, 7, 2), BAD);
        int[][] bad = {{-1, 0, 0}, {4, 0, 0}, {0, -1, 0}, {0, 100, 0}, {0, 0, -1}, {0, 0, 2},
            {MIN, 0, 0}, {0, MAX, 0}, {0, 0, MIN}, {0, 102, 1}};
        for (int[] b : bad) check.due("said(" + b[0] + ", " + b[1] + ", " + b[2] + ")", x.said(b[0], b[1], b[2]), BAD);
        StoneApologies y = Check.laid("b2,60;w1;w17;s0,1;s1,1;");
        for (int i = 0; i < 3; i++) {
            y.say(1, 0, 0);
            y.pass(1);
        }
        said(y, 0, 51, 1, 1);
        StoneApologies z = Check.laid("b2,60;b2,60;w1;w17;s0,4;s1,1;");
        z.say(0, 1, 1);
        said(z, 0, 50, 1, 1);
        said(z, 0, 99, 0, NONE);
    }

    /** By speaker 0, to block 0, word 0. */
    private static void deaf(StoneApologies x, int n, int not, int above, int below) {
        check.due("deaf(0, 0, 0, " + n + ", " + not + ", 0)", x.deaf(0, 0, 0, n, not, 0), above);
        check.due("deaf(0, 0, 0, " + n + ", " + not + ", 1)", x.deaf(0, 0, 0, n, not, 1), below);
    }

    private static void promise26() {
        StoneApologies x = Check.laid("b0,9;w5;w9;s0,1;s1,1;f2;");
        int[] ahead = Check.sight(x);
        deaf(x, 0, 0, 0, 1);
        deaf(x, 1, 0, 0, 1);
        deaf(x, 2, 0, 1, 1);
        deaf(x, 2, 5, 1, 4);
        deaf(x, 2, 10, 0, 1);
        deaf(x, 2, 1, 81, 100);
        deaf(x, 2, 9, 1, 100);
        // 5, 4, 3: out by the first two, or by all; by 5 and 3 not.
        deaf(x, 3, 5, 1, 4);
        // 5, 4, 3, 2: also by 5, 3, 2 and by 4, 3, 2: two in four, and two of sixteen more.
        deaf(x, 4, 5, 3, 8);
        deaf(x, 8, 0, 1, 1);
        deaf(x, 8, 10, 0, 1);
        check.dueRow("behind deaf", Check.sight(x), ahead);
        check.due("another word", x.deaf(1, 0, 1, 1, 3, 0), 7);
        check.due("another word", x.deaf(1, 0, 1, 1, 3, 1), 10);
        x.pass(2);
        deaf(x, 1, 4, 3, 5);
        x.say(0, 0, 0);
        check.due("out", x.deaf(0, 0, 0, 1, 4, 0), NO);
        StoneApologies y = Check.laid("b0,5;b0,60;w5;s0,1;");
        y.say(0, 1, 0);
        check.due("without an hour", y.speaker(0, 2), 0);
        deaf(y, 1, 0, 0, 1);
        deaf(y, 2, 2, 16, 25);
        // 1, 0, 0, ..: worth nothing more from the second on.
        StoneApologies z = Check.laid("b0,1;w1;s0,1;");
        deaf(z, 8, 3, 7, 10);
        deaf(Check.laid("b0,2;w1;s0,1;"), 8, 0, 0, 1);
        // 20, 19, .., 13: out by any four of eight but 13, 14, 15 and 16 or 17; by no three.
        deaf(Check.laid("b0,60;w20;s0,1;"), 8, 0, 1, 1);
        deaf(Check.laid("b0,60;w20;s0,1;"), 8, 9, 489313, 100000000);
    }

    private static void promise26Refuses() {
        StoneApologies x = Check.laid("b0,9;b0,1;w9;s0,9;");
        x.say(0, 1, 0);
        int[][] bad = {{-1, 0, 0, 1, 1, 0}, {1, 0, 0, 1, 1, 0}, {0, -1, 0, 1, 1, 0}, {0, 2, 0, 1, 1, 0},
            {0, 0, -1, 1, 1, 0}, {0, 0, 1, 1, 1, 0}, {0, 0, 0, -1, 1, 0}, {0, 0, 0, 9, 1, 0},
            {0, 0, 0, 1, -1, 0}, {0, 0, 0, 1, 11, 0}, {0, 0, 0, 1, 1, -1}, {0, 0, 0, 1, 1, 2},
            {MAX, 0, 0, 1, 1, 0}, {0, MIN, 0, 1, 1, 0}, {0, 0, MAX, 1, 1, 0}, {0, 0, 0, MAX, 1, 0},
            {0, 0, 0, 1, MIN, 0}, {0, 0, 0, 1, 1, MAX}, {0, 1, 0, 1, 11, 0}};
        for (int[] b : bad) check.due("a bad deaf", x.deaf(b[0], b[1], b[2], b[3], b[4], b[5]), BAD);
        check.due("out", x.deaf(0, 1, 0, 1, 1, 0), NO);
        x.take(1, 1);
        check.due("placed", x.deaf(0, 1, 0, 1, 1, 1), NO);
    }

    private static void year(StoneApologies x, int z, int n, int placed, int cracked) {
        int[] ahead = Check.sight(x);
        check.due("year(" + z + ", " + n + ", 0)", x.year(z, n, 0), placed);
        check.due("year(" + z + ", " + n + ", 1)", x.year(z, n, 1), cracked);
        check.dueRow("behind year(" + z + ", " + n + ")", Check.sight(x), ahead);
    }

    private static void promise27() {
        // By draws: promised to be 3; said; taken for 6.
        StoneApologies x = Check.laid("b0,5;w5;s0,9;");
        year(x, 114, 1, 0, 0);
        year(x, 114, 2, 0, 0);
        year(x, 114, 3, 0, 1);
        // Promised to be 3; said; taken for 3.
        year(x, 882, 2, 0, 0);
        year(x, 882, 3, 1, 0);
        year(Check.laid("b3,5;w5;s0,9;"), 114, 3, 1, 0);
        year(Check.laid("b0,6;w5;s0,9;"), 114, 3, 0, 0);
        // A day; taken.
        year(Check.laid("b0,5;w5;s0,9;f5;"), 36, 1, 0, 0);
        year(Check.laid("b0,5;w5;s0,9;f5;"), 36, 2, 1, 0);
        year(Check.laid("b0,5;w5;s0,9;f4;"), 36, 2, 0, 0);
        // Speaker 1 says word 1 to block 1; taken.
        year(Check.laid("b0,10;b0,10;w1;w5;s0,9;s1,9;"), 58, 2, 1, 0);
        year(Check.laid("b0,10;b0,11;w1;w5;s0,9;s1,9;"), 58, 2, 0, 0);
        year(new StoneApologies(), 9999, 60, 2, 3);
        x.say(0, 0, 0);
        x.promise(0, 0, 1);
        x.take(0, 1);
        year(x, 0, 60, 1, 0);
        x.undo();
        year(x, 114, 2, 0, 0);
        year(x, 114, 3, 1, 0);
        StoneApologies y = Check.laid("b0,5;w5;s0,1;p0,0,7;");
        y.say(0, 0, 0);
        year(y, 114, 2, 0, 0);
        year(y, 114, 3, 0, 1);
        y.take(0, 0);
        year(y, 1, 1, 0, 1);
    }

    private static void promise27Refuses() {
        StoneApologies x = new StoneApologies();
        int[][] bad = {{-1, 1, 0}, {10000, 1, 0}, {0, 0, 0}, {0, 61, 0}, {0, -1, 0}, {0, 1, -1}, {0, 1, 2},
            {MIN, 1, 0}, {MAX, 1, 0}, {0, MAX, 0}, {0, 1, MAX}};
        for (int[] b : bad) check.due("year(" + b[0] + ", " + b[1] + ", " + b[2] + ")", x.year(b[0], b[1], b[2]), BAD);
    }

    private static void promise28() {
        StoneApologies x = new StoneApologies();
        check.due("keep", x.keep(), 1);
        check.due("keep", x.keep(), 2);
        check.due("keep", x.keep(), FULL);
        check.due("kept", x.count(10), 2);
        check.due("nothing can be undone by it", x.count(9), 0);
        check.due("back", x.back(), 1);
        check.due("keep", x.keep(), 2);
        check.due("keep", x.keep(), FULL);
    }

    private static void promise29() {
        StoneApologies x = Check.laid("b0,9;b0,60;w5;s0,9;p0,0,1;");
        check.due("nothing kept", x.back(), NO);
        x.say(0, 0, 0);
        int[] one = Check.sight(x);
        check.due("keep one", x.keep(), 1);
        x.say(0, 0, 0);
        x.take(0, 2);
        x.promise(0, 1, 3);
        x.pass(4);
        int[] two = Check.sight(x);
        check.due("keep two", x.keep(), 2);
        x.wipe();
        Check.type(x, "b1");
        x.pass(5);
        x.undo();
        x.undo();
        check.due("back to two", x.back(), 1);
        two[9] = 0;
        two[10] = 1;
        two[11] = 2;
        check.dueRow("as it was kept, but THE TEXT", Check.sight(x), two);
        check.due("nothing is undone", x.undo(), NO);
        x.pass(1);
        check.due("a new one can be", x.undo(), 0);
        check.due("back to one", x.back(), 0);
        one[9] = 0;
        one[11] = 2;
        check.dueRow("as it was kept at first", Check.sight(x), one);
        check.due("nothing more is kept", x.back(), NO);
        check.due("nothing is undone", x.undo(), NO);
        check.dueRow("as it was", Check.sight(x), one);
    }

    private static void promise30() {
        StoneApologies x = Check.laid("b0,1;b0,1;b0,1;b0,60;w9;w1;s0,9;s0,4;s0,1;p0,0,0;");
        int[] bad = {-1, 12, 13, MIN, MAX};
        for (int what : bad) check.due("count(" + what + ")", x.count(what), BAD);
        counts(x, "at first", 4, 2, 3, 0, 4, 0, 0, 0, 14, 0, 0, x.count(11));
        x.wipe();
        x.pass(2);
        x.take(0, 1);
        x.take(1, 1);
        x.say(0, 3, 0);
        x.keep();
        x.write('b');
        counts(x, "later", 4, 2, 3, 2, 1, 1, 1, 1, 13, 4, 1, 1);
    }

    private static void counts(StoneApologies x, String name, int... want) {
        for (int i = 0; i < want.length; i++) check.due(name + " count(" + i + ")", x.count(i), want[i]);
    }
}
