/** Promises 17 to 23: the fewest words, the best one, orders, days, frost, uses, harm. */
public final class BestTest {
    private static final int BAD = -1, NO = -2, NONE = -4;
    private static final int MIN = Integer.MIN_VALUE, MAX = Integer.MAX_VALUE;
    private static final Check check = new Check("BestTest");

    public static void main(String[] args) {
        promise17();
        promise17Now();
        promise18();
        promise19();
        promise19Now();
        promise20();
        promise20Now();
        promise21();
        promise22();
        promise23();
        promise23Ties();
        check.end();
    }

    /** The row of least for block 0, and that nothing changes by it. */
    private static void least(String text, int... row) {
        least(text, Check.laid(text), 0, row);
    }

    private static void least(String name, StoneApologies x, int b, int... row) {
        int[] ahead = Check.sight(x);
        check.due(name + " least(" + b + ", -1)", x.least(b, -1), row.length == 0 ? NONE : row.length);
        for (int k = 0; k < 5; k++) {
            check.due(name + " least(" + b + ", " + k + ")", x.least(b, k), k < row.length ? row[k] : NONE);
        }
        check.due(name + " least(" + b + ", MAX)", x.least(b, MAX), NONE);
        check.dueRow(name + " behind least", Check.sight(x), ahead);
    }

    private static void promise17() {
        least("b0,5;w5;s0,1;", 0);
        least("b0,6;w5;s0,1;");
        least("b0,34;w10;s0,4;", 0, 0, 0, 0);
        least("b0,35;w10;s0,9;");
        least("b0,34;w10;s0,3;");
        least("b0,34;w10;s0,3;s0,1;", 0, 0, 0, 10);
        least("b0,34;w10;s0,1;s0,3;", 0, 10, 10, 10);
        least("b0,10;w3;w10;s0,1;s0,1;", 1);
        least("b0,10;w3;w10;s0,1;s1,1;", 1);
        least("b0,11;w3;w10;s0,1;s1,1;", 11);
        least("b0,15;w10;s0,1;s0,1;", 0, 10);
        least("b0,19;w10;w9;s0,9;", 0, 0);
        least("b0,20;w10;w9;s0,9;", 0, 0, 0);
        least("b0,29;w10;w10;s0,9;", 0, 0, 1);
        least("b0,38;w10;w10;s0,9;", 0, 0, 1, 1);
        least("b0,39;w10;w10;s0,9;");
        least("b0,13;w1;w1;w10;s0,9;", 2, 2);
        least("b0,7;w1;w1;w1;w4;s0,9;", 3, 3);
        least("b1,20;w6;w1;s0,1;s3,1;", 0, 10);
        least("b0,1;w1;s0,1;f0;", 0);
    }

    private static void promise17Now() {
        StoneApologies x = Check.laid("b0,29;b0,60;b0,60;b0,60;w10;s0,3;s2,1;");
        least("at first", x, 0, 0, 0, 0, 10);
        x.say(0, 1, 0);
        least("heard, with an hour less", x, 0);
        x.pass(20);
        least("soft by frost", x, 0, 0);
        x.pass(9);
        check.due("out", x.least(0, -1), NO);
        check.due("out, behind the row", x.least(0, 4), NO);
        check.due("out, bad", x.least(0, -2), BAD);
        int[][] bad = {{-1, 0}, {4, 0}, {1, -2}, {1, MIN}, {MIN, 0}, {MAX, -1}};
        for (int[] b : bad) check.due("least(" + b[0] + ", " + b[1] + ")", x.least(b[0], b[1]), BAD);
        StoneApologies first = new StoneApologies();
        least("the first quarry", first, 0, 0, 13);
        least("the first quarry", new StoneApologies(), 4, 10, 13);
        least("the first quarry", new StoneApologies(), 5, 0, 10);
    }

    private static void promise18() {
        StoneApologies x = Check.laid("b0,60;b0,60;b0,60;b0,60;w2;w5;w5;s0,2;s1,1;s1,1;");
        int[] ahead = Check.sight(x);
        check.due("best", x.best(0), 11);
        check.dueRow("behind best", Check.sight(x), ahead);
        x.say(1, 0, 1);
        check.due("by the other", x.best(0), 22);
        check.due("not heard there", x.best(3), 21);
        x.say(2, 0, 2);
        check.due("heard words, equal ones: the lower", x.best(0), 1);
        for (int i = 0; i < 4; i++) x.promise(0, 0, i);
        x.say(0, 0, 1);
        check.due("the other word then", x.best(0), 2);
        x.say(0, 0, 2);
        check.due("no hour left", x.best(0), NONE);
        check.due("in the bed", x.block(0, 3), 0);
        StoneApologies y = Check.laid("b1,60;b0,60;w1;w1;s0,9;");
        check.due("latin for marble", y.best(0), 0);
        y.say(0, 0, 0);
        y.say(0, 0, 0);
        check.due("worth nothing any more", y.best(0), NONE);
        check.due("though there are hours", y.speaker(0, 2), 7);
        check.due("worth something there", y.best(1), 1);
    }

    private static void promise19() {
        order("b0,20;b0,5;w5;s0,2;", 1, 1, 0);
        order("b0,5;b0,5;b0,5;w9;s0,2;", 2, 0, 1, 2);
        order("b0,60;b0,5;b0,5;w9;s0,2;", 2, 1, 2, 0);
        order("b0,60;b0,60;b0,60;w9;s0,2;", 0, 0, 1, 2);
        order("b0,5;w9;s0,2;", 1, 0);
        order("b0,10;b0,9;w9;s0,2;", 1, 0, 1);
        order("b0,60;b0,60;b0,5;b0,5;b0,60;b0,5;w20;s0,3;", 3, 2, 3, 5, 0, 1, 4);
        // What one hears while another is asked for makes all the difference.
        order("b0,9;b0,5;w9;s0,2;", 2, 0, 1);
        order("b0,5;b0,9;w9;s0,2;", 2, 1, 0);
    }

    private static void order(String text, int out, int... row) {
        order(text, Check.laid(text), out, row);
    }

    private static void order(String name, StoneApologies x, int out, int... row) {
        int[] ahead = Check.sight(x);
        check.due(name + " order(-1)", x.order(-1), out);
        for (int k = 0; k < 7; k++) {
            check.due(name + " order(" + k + ")", x.order(k), k < row.length ? row[k] : NONE);
        }
        check.due(name + " order(MAX)", x.order(MAX), NONE);
        check.due(name + " order(-2)", x.order(-2), BAD);
        check.due(name + " order(MIN)", x.order(MIN), BAD);
        check.dueRow(name + " behind order", Check.sight(x), ahead);
    }

    private static void promise19Now() {
        StoneApologies x = Check.laid("b0,5;b0,60;b0,5;w9;s0,3;");
        order("at first", x, 2, 0, 2, 1);
        x.say(0, 0, 0);
        order("one is out", x, 1, 2, 1);
        x.say(0, 2, 0);
        order("two are out", x, 0, 1);
        for (int i = 0; i < 3; i++) x.pass(20);
        order("none in the bed", x, 0);
        x.take(0, 0);
        order("one is placed", x, 0);
    }

    private static void days(String text, int want) {
        StoneApologies x = Check.laid(text);
        int[] ahead = Check.sight(x);
        check.due(text + " days(0, 0)", x.days(0, 0), want);
        check.dueRow(text + " behind days", Check.sight(x), ahead);
    }

    private static void promise20() {
        days("b0,5;w5;s0,1;f0;", 0);
        days("b0,9;w5;s0,1;f0;", 1);
        days("b0,9;w5;s0,2;f0;", 0);
        days("b0,10;w5;s0,1;f0;", 2);
        days("b0,15;w5;s0,1;f0;", 4);
        days("b0,16;w5;s0,1;f0;", NONE);
        days("b0,15;w5;s0,1;s1,9;f0;", 4);
        days("b0,31;w1;s0,1;", 30);
        days("b0,32;w1;s0,1;", NONE);
        days("b2,60;w1;s0,1;", 30);
        days("b2,59;w1;s0,1;", 29);
        days("b0,10;w2;w3;s0,9;f0;", NONE);
        days("b0,9;w2;w3;s0,9;f0;", 0);
        days("b0,9;w2;w3;s0,2;f0;", 2);
        days("b0,60;w1;s0,1;f0;", NONE);
        // Worth most, not last or first.
        days("b0,4;w3;w4;w2;s0,1;f0;", 0);
        days("b0,5;w3;w4;w2;s0,1;f0;", 1);
        days("b0,7;w3;w4;w2;s0,1;f0;", 1);
        days("b0,8;w3;w4;w2;s0,1;f0;", 2);
    }

    private static void promise20Now() {
        StoneApologies x = Check.laid("b0,9;b0,60;b0,60;w5;s0,1;s1,9;f0;");
        x.say(0, 1, 0);
        check.due("no hour left today, heard once", x.days(0, 0), 3);
        check.due("by the actor", x.days(0, 1), 0);
        x.say(1, 0, 0);
        check.due("out", x.days(0, 0), NO);
        check.due("out, bad", x.days(0, 2), BAD);
        int[][] bad = {{-1, 0}, {3, 0}, {1, -1}, {1, 2}, {MIN, 0}, {1, MAX}};
        for (int[] b : bad) check.due("days(" + b[0] + ", " + b[1] + ")", x.days(b[0], b[1]), BAD);
    }

    private static void promise21() {
        int[][] due = {{NONE, NONE, NONE, NONE}, {60, 30, 7, 4}, {30, 15, 4, 2}, {7, 4, 1, 1}};
        int[] frosts = {0, 1, 2, 9};
        for (int i = 0; i < 4; i++) {
            StoneApologies x = Check.laid("b0,60;b2,60;b3,7;b2,7;w1;s0,1;f" + frosts[i] + ";");
            int[] ahead = Check.sight(x);
            for (int b = 0; b < 4; b++) check.due("frost(" + b + "), f" + frosts[i], x.frost(b), due[i][b]);
            check.dueRow("behind frost", Check.sight(x), ahead);
        }
        StoneApologies x = Check.laid("b0,60;b0,60;b0,60;b0,7;w7;s0,9;");
        x.say(0, 0, 0);
        check.due("softer", x.frost(0), 53);
        x.pass(20);
        check.due("softer by days", x.frost(0), 33);
        check.due("out", x.frost(3), NO);
        int[] bad = {-1, 4, MIN, MAX};
        for (int b : bad) check.due("frost(" + b + ")", x.frost(b), BAD);
    }

    private static void promise22() {
        StoneApologies x = Check.laid("b0,1;b1,1;b2,1;b3,1;b0,60;w1;s0,1;s0,1;p0,0,0;p0,1,7;p1,1,7;p0,2,1;p1,2,2;p0,3,1;p1,3,2;");
        int[] due = {1, 128, 0, 255, 255};
        for (int b = 0; b < 5; b++) check.due("in the bed, uses(" + b + ")", x.uses(b), due[b]);
        x.promise(1, 4, 4);
        check.due("promised now", x.uses(4), 16);
        x.pass(1);
        for (int b = 0; b < 4; b++) check.due("out, uses(" + b + ")", x.uses(b), due[b]);
        x.take(0, 0);
        x.take(1, 0);
        check.due("placed", x.uses(0), NO);
        check.due("cracked", x.uses(1), NO);
        int[] bad = {-1, 5, 6, MIN, MAX};
        for (int b : bad) check.due("uses(" + b + ")", x.uses(b), BAD);
    }

    private static void harm(String text, int want) {
        StoneApologies x = Check.laid(text);
        int[] ahead = Check.sight(x);
        check.due(text + " harm(0)", x.harm(0), want);
        check.dueRow(text + " behind harm", Check.sight(x), ahead);
    }

    private static void promise23() {
        // One that is three places away does not hear it.
        harm("b0,60;b3,60;b3,60;b2,60;w5;w4;w20;s0,9;", 2);
        harm("b0,60;b3,60;b2,60;b2,60;w5;w4;w20;s0,9;", 0);
        harm("b0,60;b2,60;w5;w4;w6;s0,9;", 0);
        harm("b0,60;b1,60;w5;w4;w6;s0,9;", 1);
        harm("b0,60;w1;s0,1;", 0);
        // Chalk hears a joke for nothing, and that is less than 1.
        harm("b0,60;b3,60;w1;w9;w2;s3,9;", 2);
        // What is worth nothing is no saying here: marble, half of 1.
        harm("b1,60;b0,60;w5;w1;s0,9;", 0);
        harm("b1,60;b0,60;w5;w1;s0,9;s2,1;", 0);
        harm("b1,9;b0,60;w5;w1;s0,9;s2,1;", 11);
        StoneApologies x = Check.laid("b0,60;b0,1;b0,60;b0,60;w5;w4;w9;s0,2;");
        check.due("at first", x.harm(0), 1);
        x.say(0, 1, 2);
        check.due("nobody hears: the one worth most", x.harm(0), 2);
        check.due("one hears: what it has heard counts", x.harm(2), 1);
        x.say(0, 2, 0);
        check.due("no hour left", x.harm(0), NONE);
        check.due("out", x.harm(1), NO);
        int[] bad = {-1, 4, MIN, MAX};
        for (int b : bad) check.due("harm(" + b + ")", x.harm(b), BAD);
        for (int b : bad) check.due("best(" + b + ")", x.best(b), BAD);
        check.due("best of one that is out", x.best(1), NO);
    }

    private static void promise23Ties() {
        StoneApologies left = Check.laid("b2,60;b3,60;b3,60;b0,60;w5;w4;w20;s0,9;");
        check.due("nor does one three places to the left", left.harm(3), 2);
        StoneApologies heard = Check.laid("b0,60;b1,60;w9;w1;w1;s0,9;s1,9;");
        heard.say(0, 1, 2);
        check.due("heard more often than it is worth is nothing, not less", heard.harm(0), 11);
        harm("b0,60;w4;w5;w5;s0,9;s0,9;", 1);
        harm("b0,60;b0,60;w5;w5;s0,9;s1,9;s1,9;", 10);
        harm("b0,60;b0,60;w6;w5;w5;s0,9;s1,9;", 11);
        StoneApologies x = Check.laid("b0,60;b0,60;w5;w7;s0,9;s1,1;");
        for (int i = 0; i < 5; i++) x.say(0, 1, 0);
        check.due("nothing more to hear, by an actor", x.harm(0), 10);
        x.say(1, 1, 0);
        check.due("worth nothing to it either", x.harm(0), 1);
        for (int i = 0; i < 3; i++) x.say(0, 1, 1);
        check.due("the other, heard less", x.harm(0), 1);
    }
}
