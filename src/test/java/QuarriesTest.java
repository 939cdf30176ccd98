/** Promises 1 to 11: a new object, THE TEXT, what is laid, what can be seen of it. */
public final class QuarriesTest {
    private static final int BAD = -1, NO = -2, FULL = -3, NONE = -4;
    private static final String FIRST =
        "b0,20;b1,14;b2,9;b3,6;b0,30;b1,25;w6;w4;w5;w9;w2;s0,4;s1,6;s2,2;s3,3;f2;p0,0,3;p1,0,5;p1,2,1;";
    private static final Check check = new Check("QuarriesTest");

    public static void main(String[] args) {
        promise1();
        promise2();
        promise3();
        promise4Form();
        promise4Bounds();
        promise4Counts();
        promise5();
        promise5Forgets();
        promise6();
        promise7And8();
        promise9();
        promise10();
        promise11();
        check.end();
    }

    private static void promise1() {
        check.due("BAD", StoneApologies.BAD, BAD);
        check.due("NO", StoneApologies.NO, NO);
        check.due("FULL", StoneApologies.FULL, FULL);
        check.due("NONE", StoneApologies.NONE, NONE);
        StoneApologies x = new StoneApologies();
        int[] counts = {6, 5, 4, 0, 6, 0, 0, 0, 15, 0, 0, 0};
        for (int i = 0; i < counts.length; i++) check.due("new count(" + i + ")", x.count(i), counts[i]);
        check.due("the empty text's fault", x.fault(), NONE);
        check.due("the empty text laid", x.lay(), NO);
        check.due("new undo", x.undo(), NO);
        check.due("new back", x.back(), NO);
        int[] told = Check.sight(Check.laid(FIRST));
        told[11] = 0;
        check.dueRow("all of a new object", Check.sight(x), told);
        int[] needs = {20, 14, 9, 6, 30, 25};
        int[] kinds = {0, 1, 2, 3, 0, 1};
        for (int b = 0; b < 6; b++) {
            check.due("new kind " + b, x.block(b, 0), kinds[b]);
            check.due("new need " + b, x.block(b, 1), needs[b]);
        }
        check.due("the day", x.pass(1), 1);
        check.due("the first frost", x.block(0, 2), 2);
        check.due("the first frost on slate", x.block(2, 2), 4);
    }

    private static void promise2() {
        StoneApologies x = new StoneApologies();
        int[] none = {31, 127, 0, -1, 10, 128, 255, 98 + 256, Integer.MIN_VALUE, Integer.MAX_VALUE};
        for (int letter : none) check.due("write(" + letter + ")", x.write(letter), BAD);
        check.due("nothing written", x.count(11), 0);
        check.due("write(32)", x.write(32), 1);
        check.due("write(126)", x.write(126), 2);
        for (int i = 3; i <= 200; i++) check.due("letter " + i, x.write('b'), i);
        check.due("the 201st letter", x.write('b'), FULL);
        check.due("a bad one on a full text", x.write(31), BAD);
        check.due("a full text", x.count(11), 200);
        check.due("a full text wiped", x.wipe(), 200);
        check.due("written anew", x.write('b'), 1);
    }

    private static void promise3() {
        StoneApologies x = new StoneApologies();
        check.due("wipe of none", x.wipe(), 0);
        Check.type(x, "b0,1;w1;s0,1;");
        check.due("wipe", x.wipe(), 13);
        check.due("wipe again", x.wipe(), 0);
        check.due("wiped", x.count(11), 0);
        check.due("wiped: no fault", x.fault(), NONE);
        check.due("wiped: not laid", x.lay(), NO);
        Check.type(x, "b0,");
        check.due("old letters are gone", x.fault(), 0);
        Check.type(x, "1;w1");
        check.due("old letters are gone behind an item", x.fault(), 5);
        check.due("wiped: what is laid stays", x.count(0), 6);
    }

    private static void fault(String text, int want) {
        StoneApologies x = new StoneApologies();
        Check.type(x, text);
        int[] ahead = Check.sight(x);
        check.due("fault of " + text, x.fault(), want);
        check.due("fault again of " + text, x.fault(), want);
        check.dueRow("sight behind fault of " + text, Check.sight(x), ahead);
        if (want != NONE) check.due("lay of " + text, x.lay(), NO);
    }

    private static void promise4Form() {
        fault("", NONE);
        fault(FIRST, NONE);
        fault("b00,01;w05;s01,09;f00;p00,00,07;", NONE);
        fault("f3;f4;f5;", NONE);
        fault("b0,20", 0);
        fault("b0,", 0);
        fault("b0", 0);
        fault("b", 0);
        fault(";", 0);
        fault("b0,20;;", 6);
        fault("b0,20;w", 6);
        fault("b0,20;w5;s0,1;x1;", 14);
        fault("B0,20;", 0);
        fault("b0,020;", 0);
        fault("b000,20;", 0);
        fault("w005;", 0);
        fault("b0,20 ;", 0);
        fault(" b0,20;", 0);
        fault("b 0,20;", 0);
        fault("b0,20; w5;", 6);
        fault("b0;", 0);
        fault("b0,20,1;", 0);
        fault("w5,1;", 0);
        fault("w;", 0);
        fault("w,;", 0);
        fault("s1;", 0);
        fault("s1,2,3;", 0);
        fault("f;", 0);
        fault("f1,1;", 0);
        fault("b0,9;s0,1;p0,0;", 10);
        fault("b0,9;s0,1;p0,0,1,1;", 10);
        fault("b0,9;s0,1;p0,0,;", 10);
        fault("b0,9;s0,1;p,0,0;", 10);
        fault("b,9;", 0);
        fault("b-1,9;", 0);
        fault("b0.9;", 0);
        fault("b0,9:", 0);
        fault("w5;b0/9;w99;", 3);
        // The signs just beside the figures.
        fault("b0,:;", 0);
        fault("b0,1:;", 0);
        fault("b0,/;", 0);
        fault("b0,1/;", 0);
        fault("9", 0);
    }

    private static void promise4Bounds() {
        fault("b3,1;b0,60;", NONE);
        fault("b4,1;", 0);
        fault("b10,1;", 0);
        fault("b0,0;", 0);
        fault("b0,61;", 0);
        fault("w1;w20;", NONE);
        fault("w0;", 0);
        fault("w1;w21;", 3);
        fault("s3,1;s0,9;", NONE);
        fault("s4,1;", 0);
        fault("s0,0;", 0);
        fault("s0,10;", 0);
        fault("f0;f9;", NONE);
        fault("f10;", 0);
        fault("b0,9;s0,1;p0,0,0;p0,0,7;", NONE);
        fault("b0,9;s0,1;p0,0,8;", 10);
        fault("b0,9;s0,1;p1,0,0;", 10);
        fault("b0,9;s0,1;p0,1,0;", 10);
        fault("p0,0,0;b0,9;s0,1;", 0);
        fault("b0,9;p0,0,0;s0,1;", 5);
        fault("s0,1;p0,0,0;b0,9;", 5);
        fault("b0,9;b0,9;s0,1;s0,1;p1,1,0;p2,1,0;", 27);
        fault("b0,9;b0,9;s0,1;s0,1;p1,1,0;p1,2,0;", 27);
    }

    private static void promise4Counts() {
        fault("b0,1;b0,2;b0,3;b0,4;b0,5;b0,6;", NONE);
        fault("b0,1;b0,2;b0,3;b0,4;b0,5;b0,6;b0,7;", 30);
        fault("w1;w2;w3;w4;w5;w6;", NONE);
        fault("w1;w2;w3;w4;w5;w6;w7;", 18);
        fault("s0,1;s0,2;s0,3;s0,4;", NONE);
        fault("s0,1;s0,2;s0,3;s0,4;s0,5;", 20);
        StringBuilder frosts = new StringBuilder();
        for (int i = 0; i < 66; i++) frosts.append("f1;");
        fault(frosts.toString(), NONE);
        fault(frosts + "f1", 198);
        fault(frosts + "f", 198);
    }

    private static void promise5() {
        StoneApologies x = new StoneApologies();
        Check.type(x, "b0,9;w1;");
        int[] ahead = Check.sight(x);
        check.due("lay without a speaker", x.lay(), NO);
        check.dueRow("not laid", Check.sight(x), ahead);
        Check.type(x, "s0,2;");
        check.due("lay", x.lay(), 1);
        check.due("the text stays", x.count(11), 13);
        check.due("lay again", x.lay(), 1);
        Check.type(x, "b2,7;");
        check.due("not laid yet", x.count(0), 1);
        check.due("lay with one more", x.lay(), 2);
        Check.type(x, "x");
        check.due("lay with a fault", x.lay(), NO);
        check.due("as it was laid", x.count(0), 2);
        StoneApologies y = new StoneApologies();
        Check.type(y, "w1;s0,2;");
        check.due("lay without a block", y.lay(), NO);
        y.wipe();
        Check.type(y, "b0,1;s0,2;");
        check.due("lay without a word", y.lay(), NO);
        y.wipe();
        Check.type(y, "f7;");
        check.due("lay of frost", y.lay(), NO);
        y.pass(1);
        check.due("frost as it was laid", y.block(0, 2), 2);
    }

    private static void promise5Forgets() {
        StoneApologies x = Check.laid("b0,9;b0,9;w5;s0,2;f4;f3;p0,0,1;p0,0,2;");
        int[] start = Check.sight(x);
        x.say(0, 0, 0);
        x.promise(0, 1, 6);
        x.keep();
        x.keep();
        x.pass(1);
        x.pass(2);
        x.take(0, 1);
        check.due("days", x.count(3), 3);
        check.due("the last frost counts", x.block(1, 2), 9);
        check.due("a cracked one", x.count(7), 1);
        check.due("laid again", x.lay(), 2);
        check.dueRow("all as at first", Check.sight(x), start);
        check.due("nothing undone", x.undo(), NO);
        check.due("nothing kept", x.back(), NO);
        check.due("the last promise counts", x.promised(0, 0), 2);
        StoneApologies y = Check.laid("b0,9;b2,9;w5;s0,2;");
        y.pass(1);
        check.due("frost without one", y.block(0, 2), 1);
        check.due("frost without one on slate", y.block(1, 2), 2);
    }

    private static void promise6() {
        StoneApologies x = Check.laid("b0,2;b3,60;b2,1;w5;s0,9;f0;p0,0,3;");
        int[][] bad = {{-1, 0}, {3, 0}, {0, -1}, {0, 5}, {Integer.MIN_VALUE, 0}, {Integer.MAX_VALUE, 0},
            {0, Integer.MIN_VALUE}, {0, Integer.MAX_VALUE}, {6, 4}};
        for (int[] b : bad) check.due("block(" + b[0] + ", " + b[1] + ")", x.block(b[0], b[1]), BAD);
        int[][] first = {{0, 2, 0, 0, NONE}, {3, 60, 0, 0, NONE}, {2, 1, 0, 0, NONE}};
        for (int b = 0; b < 3; b++) {
            for (int what = 0; what < 5; what++) check.due("at first", x.block(b, what), first[b][what]);
        }
        x.say(0, 0, 0);
        check.due("softer than it needs", x.block(0, 2), 5);
        check.due("out", x.block(0, 3), 1);
        check.due("not taken", x.block(0, 4), NONE);
        x.take(0, 4);
        check.due("cracked", x.block(0, 3), 3);
        check.due("taken for 4", x.block(0, 4), 4);
        x.say(0, 2, 0);
        x.take(2, 0);
        check.due("placed", x.block(2, 3), 2);
        check.due("taken for 0", x.block(2, 4), 0);
    }

    private static void promise7And8() {
        StoneApologies x = Check.laid("b0,2;w5;w20;w1;s0,9;s3,1;");
        check.due("word(0)", x.word(0), 5);
        check.due("word(1)", x.word(1), 20);
        check.due("word(2)", x.word(2), 1);
        int[] none = {-1, 3, 6, Integer.MIN_VALUE, Integer.MAX_VALUE};
        for (int w : none) check.due("word(" + w + ")", x.word(w), BAD);
        int[][] speakers = {{0, 9, 9}, {3, 1, 1}};
        for (int s = 0; s < 2; s++) {
            for (int what = 0; what < 3; what++) check.due("speaker", x.speaker(s, what), speakers[s][what]);
        }
        check.due("speaker(2, 0)", x.speaker(2, 0), BAD);
        check.due("speaker(-1, 0)", x.speaker(-1, 0), BAD);
        check.due("speaker(0, 3)", x.speaker(0, 3), BAD);
        check.due("speaker(0, -1)", x.speaker(0, -1), BAD);
        check.due("speaker(MAX, MIN)", x.speaker(Integer.MAX_VALUE, Integer.MIN_VALUE), BAD);
        x.say(1, 0, 2);
        check.due("hours a day", x.speaker(1, 1), 1);
        check.due("hours left", x.speaker(1, 2), 0);
        check.due("word worth as told, heard or not", x.word(2), 1);
        x.pass(1);
        check.due("hours left on the next day", x.speaker(1, 2), 1);
    }

    private static void promise9() {
        StoneApologies x = Check.laid("b0,60;b0,60;w5;w2;s0,9;");
        check.due("heard(0, 0)", x.heard(0, 0), 0);
        x.say(0, 0, 1);
        x.say(0, 1, 1);
        check.due("heard(0, 1)", x.heard(0, 1), 2);
        check.due("heard(1, 1)", x.heard(1, 1), 2);
        check.due("heard(1, 0)", x.heard(1, 0), 0);
        x.say(0, 0, 1);
        x.say(0, 0, 1);
        check.due("heard though worth nothing", x.heard(0, 1), 4);
        int[][] bad = {{-1, 0}, {2, 0}, {0, -1}, {0, 2}, {5, 1}, {1, 5},
            {Integer.MIN_VALUE, 0}, {0, Integer.MAX_VALUE}};
        for (int[] b : bad) check.due("heard(" + b[0] + ", " + b[1] + ")", x.heard(b[0], b[1]), BAD);
    }

    private static void promise10() {
        StoneApologies x = Check.laid("b0,60;b0,60;w5;s0,9;s1,1;s2,1;p0,1,0;p2,0,7;p2,0,6;");
        int[][] due = {{NONE, 0}, {NONE, NONE}, {6, NONE}};
        for (int s = 0; s < 3; s++) {
            for (int b = 0; b < 2; b++) check.due("promised(" + s + ", " + b + ")", x.promised(s, b), due[s][b]);
        }
        int[][] bad = {{-1, 0}, {3, 0}, {0, -1}, {0, 2}, {Integer.MAX_VALUE, 0}, {0, Integer.MIN_VALUE}};
        for (int[] b : bad) check.due("promised(" + b[0] + ", " + b[1] + ")", x.promised(b[0], b[1]), BAD);
    }

    /** By speaker kind (four), block (granite, marble, slate, chalk, then slate that needs 11), word (four). */
    private static final int[][][] WORTHS = {
        {{7, 3, 5, 9}, {14, 1, 2, 4}, {7, 9, 5, 9}, {7, 3, 0, 9}, {7, 9, 5, 9}},
        {{14, 6, 10, 18}, {28, 2, 4, 8}, {14, 18, 10, 18}, {14, 6, 0, 18}, {14, 18, 10, 18}},
        {{11, 7, 9, 13}, {18, 5, 6, 8}, {11, 13, 9, 13}, {11, 7, 4, 13}, {7, 9, 5, 9}},
        {{10, 3, 5, 9}, {17, 1, 2, 4}, {10, 9, 5, 9}, {10, 3, 0, 9}, {10, 9, 5, 9}}};

    private static void promise11() {
        StoneApologies x = Check.laid("b0,10;b1,10;b2,10;b3,10;b2,11;w7;w3;w5;w9;s0,1;s1,1;s2,1;s3,9;");
        for (int s = 0; s < 4; s++) {
            for (int b = 0; b < 5; b++) {
                for (int w = 0; w < 4; w++) {
                    check.due("worth(" + s + ", " + b + ", " + w + ")", x.worth(s, b, w), WORTHS[s][b][w]);
                }
            }
        }
        x.say(3, 1, 1);
        check.due("heard once", x.worth(0, 1, 1), 0);
        check.due("heard once, by an actor", x.worth(1, 1, 1), 1);
        check.due("heard once through the bed", x.worth(0, 2, 1), 8);
        x.say(3, 1, 1);
        x.say(3, 1, 1);
        check.due("never below 0", x.worth(0, 1, 1), 0);
        check.due("never below 0, by a child", x.worth(2, 1, 1), 2);
        x.say(3, 0, 0);
        check.due("out: as ever", x.block(0, 3), 1);
        check.due("out: worth all the same", x.worth(0, 0, 0), 6);
        int[][] bad = {{-1, 0, 0}, {4, 0, 0}, {0, -1, 0}, {0, 5, 0}, {0, 0, -1}, {0, 0, 4},
            {Integer.MAX_VALUE, 0, 0}, {0, Integer.MIN_VALUE, 0}, {0, 0, Integer.MAX_VALUE}};
        for (int[] b : bad) {
            check.due("worth(" + b[0] + ", " + b[1] + ", " + b[2] + ")", x.worth(b[0], b[1], b[2]), BAD);
        }
    }
}
