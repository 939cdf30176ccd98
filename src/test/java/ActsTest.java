/** Promises 12 to 16: words said, promises, blocks taken, days, undone. */
public final class ActsTest {
    private static final int BAD = -1, NO = -2, NONE = -4;
    private static final int MIN = Integer.MIN_VALUE, MAX = Integer.MAX_VALUE;
    private static final Check check = new Check("ActsTest");

    public static void main(String[] args) {
        promise12();
        promise12Through();
        promise12Refuses();
        promise13();
        promise14();
        promise14Refuses();
        promise15();
        promise15Out();
        promise16();
        promise16Depth();
        check.end();
    }

    private static void heard(StoneApologies x, int w, int... times) {
        for (int b = 0; b < times.length; b++) check.due("heard(" + b + ", " + w + ")", x.heard(b, w), times[b]);
    }

    private static void promise12() {
        StoneApologies x = Check.laid("b0,60;b0,10;b0,60;b0,60;b0,60;b0,60;w6;w1;s0,9;s1,1;");
        check.due("say", x.say(0, 2, 0), 6);
        heard(x, 0, 1, 1, 1, 1, 1, 0);
        heard(x, 1, 0, 0, 0, 0, 0, 0);
        check.due("an hour less", x.speaker(0, 2), 8);
        check.due("the other's hour", x.speaker(1, 2), 1);
        check.due("say what was heard once", x.say(0, 1, 0), 5);
        heard(x, 0, 2, 2, 2, 2, 1, 0);
        check.due("say what was heard twice", x.say(0, 1, 0), 9);
        check.due("in the bed still", x.block(1, 3), 0);
        check.due("as soft as it needs", x.say(0, 1, 1), 10);
        check.due("out", x.block(1, 3), 1);
        heard(x, 1, 1, 1, 1, 1, 0, 0);
        check.due("worth nothing", x.say(0, 0, 1), 0);
        heard(x, 1, 2, 1, 1, 1, 0, 0);
        check.due("an actor", x.say(1, 5, 0), 12);
        heard(x, 0, 3, 3, 3, 4, 2, 1);
    }

    private static void promise12Through() {
        StoneApologies x = Check.laid("b0,60;b0,1;b0,60;b0,1;b0,60;w5;w9;s0,9;");
        x.say(0, 1, 0);
        heard(x, 0, 1, 1, 1, 1, 0);
        check.due("one that is out lets nothing through", x.say(0, 0, 1), 9);
        heard(x, 1, 1, 0, 0, 0, 0);
        check.due("say", x.say(0, 2, 1), 9);
        heard(x, 1, 1, 0, 1, 1, 1);
        check.due("the one between comes out", x.say(0, 3, 0), 4);
        heard(x, 0, 1, 1, 2, 2, 1);
        check.due("nothing on either side", x.say(0, 2, 0), 12);
        heard(x, 0, 1, 1, 3, 2, 1);
        x.take(1, 0);
        x.take(3, 0);
        check.due("taken ones hear nothing", x.say(0, 2, 1), 20);
        heard(x, 1, 1, 0, 2, 1, 1);
    }

    private static void promise12Refuses() {
        StoneApologies x = Check.laid("b0,5;b0,60;w6;s0,2;s0,9;");
        int[][] bad = {{-1, 0, 0}, {2, 0, 0}, {0, -1, 0}, {0, 2, 0}, {0, 0, -1}, {0, 0, 1},
            {MIN, 0, 0}, {0, MAX, 0}, {0, 0, MIN}, {3, 5, 5}};
        int[] ahead = Check.sight(x);
        for (int[] b : bad) {
            check.due("say(" + b[0] + ", " + b[1] + ", " + b[2] + ")", x.say(b[0], b[1], b[2]), BAD);
        }
        check.dueRow("bad ones", Check.sight(x), ahead);
        x.say(0, 0, 0);
        ahead = Check.sight(x);
        check.due("to one that is out", x.say(0, 0, 0), NO);
        check.due("to one that is out, bad", x.say(0, 0, 9), BAD);
        check.dueRow("to one that is out", Check.sight(x), ahead);
        x.say(0, 1, 0);
        ahead = Check.sight(x);
        check.due("without an hour", x.say(0, 1, 0), NO);
        check.due("without an hour, bad", x.say(0, 2, 0), BAD);
        check.dueRow("without an hour", Check.sight(x), ahead);
        check.due("the other has some", x.say(1, 1, 0), 9);
        x.take(0, 0);
        check.due("to a placed one", x.say(1, 0, 0), NO);
    }

    private static void promise13() {
        StoneApologies x = Check.laid("b0,5;b0,60;w6;s0,1;s0,9;p1,1,4;");
        check.due("promise", x.promise(0, 1, 7), NONE);
        check.due("promise again", x.promise(0, 1, 0), 7);
        check.due("the same once more", x.promise(0, 1, 0), 0);
        check.due("promised", x.promised(0, 1), 0);
        check.due("by another", x.promise(1, 1, 2), 4);
        check.due("five can not be undone", x.count(9), 4);
        check.due("no hour goes", x.count(8), 10);
        x.say(0, 0, 0);
        check.due("without an hour", x.promise(0, 1, 3), 0);
        int[] ahead = Check.sight(x);
        check.due("to one that is out", x.promise(0, 0, 3), NO);
        check.due("to one that is out, bad", x.promise(0, 0, 8), BAD);
        int[][] bad = {{-1, 1, 0}, {2, 1, 0}, {0, -1, 0}, {0, 2, 0}, {0, 1, -1}, {0, 1, 8},
            {MAX, 1, 0}, {0, MIN, 0}, {0, 1, MAX}, {0, 1, NONE}};
        for (int[] b : bad) {
            check.due("promise(" + b[0] + ", " + b[1] + ", " + b[2] + ")", x.promise(b[0], b[1], b[2]), BAD);
        }
        check.dueRow("refused", Check.sight(x), ahead);
        x.take(0, 0);
        check.due("to a placed one", x.promise(0, 0, 3), NO);
    }

    private static void promise14() {
        StoneApologies x = Check.laid(
            "b0,1;b1,1;b2,1;b3,1;b3,1;b0,1;w9;s0,1;s0,1;f9;p0,0,3;p1,1,0;p0,2,6;p1,2,7;p0,3,1;p1,3,2;p0,5,5;p1,5,5;");
        x.pass(1);
        check.due("all out", x.count(5), 6);
        check.due("as promised", x.take(0, 3), 1);
        check.due("otherwise than promised", x.take(1, 7), 0);
        check.due("as one of two has promised", x.take(2, 6), 0);
        check.due("chalk does not crack", x.take(3, 7), 1);
        check.due("nothing promised", x.take(4, 0), 1);
        check.due("as both have promised", x.take(5, 5), 1);
        check.due("placed", x.count(6), 4);
        check.due("cracked", x.count(7), 2);
        check.due("out", x.count(5), 0);
        int[] places = {2, 3, 3, 2, 2, 2};
        int[] taken = {3, 7, 6, 7, 0, 5};
        for (int b = 0; b < 6; b++) {
            check.due("where " + b + " is", x.block(b, 3), places[b]);
            check.due("for what " + b + " was taken", x.block(b, 4), taken[b]);
        }
    }

    private static void promise14Refuses() {
        StoneApologies x = Check.laid("b0,1;b0,60;w9;s0,9;p0,0,3;");
        int[] ahead = Check.sight(x);
        check.due("in the bed", x.take(0, 3), NO);
        check.due("in the bed, bad", x.take(0, 8), BAD);
        int[][] bad = {{-1, 0}, {2, 0}, {0, -1}, {0, 8}, {MIN, 0}, {0, MAX}, {MAX, MIN}};
        for (int[] b : bad) check.due("take(" + b[0] + ", " + b[1] + ")", x.take(b[0], b[1]), BAD);
        check.dueRow("refused", Check.sight(x), ahead);
        x.say(0, 0, 0);
        x.take(0, 2);
        check.due("cracked already", x.take(0, 3), NO);
        x.undo();
        x.take(0, 3);
        check.due("placed already", x.take(0, 3), NO);
        check.due("placed already, bad", x.take(0, -1), BAD);
    }

    private static void promise15() {
        StoneApologies x = Check.laid("b0,60;b2,60;w5;s0,2;s0,9;f2;");
        int[] ahead = Check.sight(x);
        int[] bad = {0, -1, 21, MIN, MAX};
        for (int n : bad) check.due("pass(" + n + ")", x.pass(n), BAD);
        check.dueRow("refused", Check.sight(x), ahead);
        x.say(0, 0, 0);
        x.say(1, 0, 0);
        check.due("hours left", x.count(8), 9);
        check.due("a day", x.pass(1), 1);
        check.due("all hours again", x.count(8), 11);
        check.due("softer by frost", x.block(0, 2), 11);
        check.due("slate softer by twice that", x.block(1, 2), 4);
        check.due("what was heard stays", x.heard(1, 0), 2);
        check.due("three days", x.pass(3), 4);
        check.due("softer by three days", x.block(0, 2), 17);
        check.due("slate softer by three days", x.block(1, 2), 16);
        check.due("twenty days", x.pass(20), 24);
        check.due("days", x.count(3), 24);
        check.due("no frost", Check.laid("b0,1;w5;s0,2;f0;").pass(20), 20);
    }

    private static void promise15Out() {
        StoneApologies x = Check.laid("b0,5;b2,5;b0,60;w5;s0,2;f2;");
        x.pass(2);
        check.due("not out", x.block(0, 3), 0);
        check.due("slate out", x.block(1, 3), 1);
        check.due("slate", x.block(1, 2), 8);
        x.pass(20);
        check.due("out", x.block(0, 3), 1);
        check.due("no softer when out", x.block(0, 2), 6);
        check.due("slate no softer when out", x.block(1, 2), 8);
        check.due("in the bed", x.block(2, 2), 44);
        x.take(0, 0);
        x.pass(1);
        check.due("no softer when placed", x.block(0, 2), 6);
        x.pass(7);
        check.due("as soft as it needs", x.block(2, 3), 1);
        check.due("just so", x.block(2, 2), 60);
        StoneApologies y = Check.laid("b0,60;w5;s0,2;f0;");
        y.pass(20);
        check.due("without frost", y.block(0, 2), 0);
    }

    private static void promise16() {
        StoneApologies x = Check.laid("b0,5;b0,60;w6;s0,9;p0,0,1;");
        check.due("nothing to undo", x.undo(), NO);
        int[][] seen = new int[6][];
        seen[0] = Check.sight(x);
        x.say(0, 0, 0);
        seen[1] = Check.sight(x);
        x.promise(0, 1, 5);
        seen[2] = Check.sight(x);
        x.take(0, 7);
        seen[3] = Check.sight(x);
        x.pass(7);
        seen[4] = Check.sight(x);
        x.promise(0, 1, 5);
        seen[5] = Check.sight(x);
        check.due("refused", x.say(0, 0, 0), NO);
        check.due("bad", x.pass(0), BAD);
        check.dueRow("refused ones can not be undone", Check.sight(x), seen[5]);
        for (int i = 4; i >= 0; i--) {
            check.due("undo to " + i, x.undo(), i);
            check.dueRow("undone to " + i, Check.sight(x), seen[i]);
        }
        check.due("no more", x.undo(), NO);
        check.dueRow("nothing more undone", Check.sight(x), seen[0]);
        check.due("said anew", x.say(0, 1, 0), 6);
        check.due("undone anew", x.undo(), 0);
        check.dueRow("undone anew", Check.sight(x), seen[0]);
    }

    private static void promise16Depth() {
        StoneApologies x = Check.laid("b0,60;w6;s0,9;f0;");
        for (int i = 1; i <= 13; i++) {
            check.due("day " + i, x.pass(1), i);
            check.due("that can be undone", x.count(9), Math.min(i, 8));
        }
        for (int i = 7; i >= 4; i--) check.due("undo", x.undo(), i);
        check.due("back by four", x.count(3), 9);
        x.pass(20);
        check.due("one more", x.count(9), 5);
        for (int i = 4; i >= 0; i--) check.due("undo", x.undo(), i);
        check.due("back by eight", x.count(3), 5);
        check.due("only eight", x.undo(), NO);
        x.pass(2);
        check.due("kept", x.keep(), 1);
        check.due("keeping is not undone", x.undo(), 0);
        check.due("kept still", x.count(10), 1);
        check.due("the day", x.count(3), 5);
    }
}
