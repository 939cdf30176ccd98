/** Section 2 and promises 6 to 16, sentence by sentence: words, promises, blocks taken, days, undone. */
public final class ActSentencesTest {
    private static final Check check = new Check("ActSentencesTest");
    private static final String SIX = "laid b0,60;b0,60;b0,60;b0,60;b0,60;b0,60;w9;w1;s0,9;";

    public static void main(String[] args) {
        worthByBlock();
        worthBySpeaker();
        worthOfAll();
        worthByHearing();
        hours();
        inTheBed();
        howSoft();
        heardNear();
        heardThrough();
        outAsSoonAs();
        promises();
        takings();
        chalk();
        days();
        daysInTheBed();
        undone();
        undoneActs();
        undoneEight();
        seen();
        check.end();
    }

    private static void told(String sentence, String... rows) {
        Script.told(check, sentence, rows);
    }

    private static void worthByBlock() {
        String words = "w1;w1;w1;w1;w1;w1;s0,9;";
        told("lowest words", "laid b0,60;b1,60;b2,60;b3,60;" + words,
            "worth 0 0 0 = 1 | worth 0 0 1 = 1 | worth 0 0 2 = 1 | worth 0 0 5 = 1",
            "worth 0 1 0 = 2 | worth 0 1 1 = 0 | worth 0 1 2 = 0 | worth 0 1 5 = 0",
            "worth 0 2 0 = 1 | worth 0 2 1 = 3 | worth 0 2 2 = 1 | worth 0 2 5 = 1",
            "worth 0 3 0 = 1 | worth 0 3 1 = 1 | worth 0 3 2 = 0 | worth 0 3 5 = 1");
        told("highest words", "laid b0,60;b1,60;b2,60;b3,60;" + words.replace("w1", "w20"),
            "worth 0 0 0 = 20 | worth 0 0 1 = 20 | worth 0 0 2 = 20 | worth 0 0 5 = 20",
            "worth 0 1 0 = 40 | worth 0 1 1 = 10 | worth 0 1 2 = 10 | worth 0 1 5 = 10",
            "worth 0 2 0 = 20 | worth 0 2 1 = 60 | worth 0 2 2 = 20 | worth 0 2 5 = 20",
            "worth 0 3 0 = 20 | worth 0 3 1 = 20 | worth 0 3 2 = 0 | worth 0 3 5 = 20");
        told("marble: half, cut", "laid b1,60;w19;w2;w3;w4;w5;w19;s0,9;",
            "worth 0 0 0 = 38 | worth 0 0 1 = 1 | worth 0 0 2 = 1 | worth 0 0 3 = 2 | worth 0 0 4 = 2 | worth 0 0 5 = 9");
        told("what a word is worth, as told", "laid b1,60;w1;w20;s1,9;", "say 0 0 0 | word 0 = 1 | word 1 = 20 | word 2 = BAD");
    }

    private static void worthBySpeaker() {
        String words = "w5;w3;w7;w5;";
        told("a mason: the same", "laid b0,60;b1,60;b2,60;b3,60;" + words + "s0,9;",
            "worth 0 0 0 = 5 | worth 0 1 0 = 10 | worth 0 1 2 = 3 | worth 0 2 1 = 9 | worth 0 3 2 = 0 | worth 0 3 3 = 5");
        told("an actor: twice that, what is cut being cut", "laid b0,60;b1,60;b2,60;b3,60;" + words + "s1,9;",
            "worth 0 0 0 = 10 | worth 0 1 0 = 20 | worth 0 1 2 = 6 | worth 0 2 1 = 18 | worth 0 3 2 = 0 | worth 0 3 3 = 10");
        told("a child: 4 more if it needs 10", "laid b0,10;b1,10;b2,10;b3,10;" + words + "s2,9;",
            "worth 0 0 0 = 9 | worth 0 1 0 = 14 | worth 0 1 2 = 7 | worth 0 2 1 = 13 | worth 0 3 2 = 4 | worth 0 3 3 = 9");
        told("a child: no more if it needs 11", "laid b0,11;b1,11;b2,11;b3,11;" + words + "s2,9;",
            "worth 0 0 0 = 5 | worth 0 1 0 = 10 | worth 0 1 2 = 3 | worth 0 2 1 = 9 | worth 0 3 2 = 0 | worth 0 3 3 = 5");
        told("a child: what it needs counts, not what is lacking", "laid b0,11;b0,1;b0,60;w1;s2,9;f1;",
            "worth 0 0 0 = 1 | worth 0 1 0 = 5 | worth 0 2 0 = 1 | pass 5 | worth 0 0 0 = 1 | worth 0 1 0 = 5");
        told("a priest: 3 more if it is latin", "laid b0,60;b1,60;b2,60;b3,60;" + words + "s3,9;",
            "worth 0 0 0 = 8 | worth 0 1 0 = 13 | worth 0 2 0 = 8 | worth 0 3 0 = 8",
            "worth 0 0 1 = 3 | worth 0 1 2 = 3 | worth 0 2 1 = 9 | worth 0 3 2 = 0 | worth 0 3 3 = 5");
        told("the most there is", "laid b2,60;w20;w20;s1,9;", "worth 0 0 1 = 120 | say 0 0 1 = 120 | block 0 3 = 1 | block 0 2 = 120");
    }

    private static final int[] NEEDS = {10, 60, 11, 1, 10, 30};
    private static final int[] KINDS = {0, 1, 2, 3, 1, 2};
    private static final int[] WORDS = {7, 5, 12, 20, 1, 9};

    /** As many blocks, words and speakers as there can be, each by each. */
    private static void worthOfAll() {
        StringBuilder text = new StringBuilder("laid ");
        for (int b = 0; b < 6; b++) text.append("b").append(KINDS[b]).append(",").append(NEEDS[b]).append(";");
        for (int w = 0; w < 6; w++) text.append("w").append(WORDS[w]).append(";");
        text.append("s1,9;s0,9;s3,9;s2,9;");
        StringBuilder due = new StringBuilder("count 0 = 6");
        for (int b = 0; b < 6; b++) {
            for (int w = 0; w < 6; w++) {
                int plain = WORDS[w];
                if (KINDS[b] == 1) plain = w == 0 ? 2 * plain : plain / 2;
                if (KINDS[b] == 2 && w == 1) plain = 3 * plain;
                if (KINDS[b] == 3 && w == 2) plain = 0;
                String at = " " + b + " " + w + " = ";
                due.append(" | worth 0").append(at).append(2 * plain).append(" | worth 1").append(at).append(plain);
                due.append(" | worth 2").append(at).append(w == 0 ? plain + 3 : plain);
                due.append(" | worth 3").append(at).append(NEEDS[b] <= 10 ? plain + 4 : plain);
            }
        }
        told("each speaker, block and word", text.toString(), due.toString());
    }

    private static void worthByHearing() {
        told("less by how often", "laid b0,60;b0,60;w3;w3;s0,9;",
            "say 0 1 0 = 3 | worth 0 0 0 = 2 | say 0 1 0 = 5 | worth 0 0 0 = 1 | say 0 1 0 = 6 | worth 0 0 0 = 0",
            "say 0 1 0 = 6 | worth 0 0 0 = 0 | heard 0 0 = 4 | worth 0 0 1 = 3");
        told("less than twice that, not twice what is less", "laid b0,60;b0,60;w5;s1,9;", "say 0 1 0 = 10 | worth 0 0 0 = 9 | say 0 1 0 = 19 | worth 0 0 0 = 8");
        told("less than what a child or a priest makes of it", "laid b3,10;b3,9;w1;w1;w1;s2,9;s3,9;s0,9;",
            "say 2 1 2 = 0 | worth 0 0 2 = 3 | worth 2 0 2 = 0 | say 2 1 0 = 1 | say 2 1 0 = 1 | heard 0 0 = 2 | worth 1 0 0 = 2 | worth 0 0 0 = 3",
            "worth 2 0 0 = 0");
        told("by that block alone", "laid b0,60;b0,60;b0,60;b0,60;w5;s0,9;", "say 0 0 0 | worth 0 0 0 = 4 | worth 0 1 0 = 4 | worth 0 2 0 = 4 | worth 0 3 0 = 5");
        told("now, in the bed or not", "laid b0,5;b0,60;w5;s0,9;s1,1;", "say 0 0 0 = 5 | block 0 3 = 1 | worth 0 0 0 = 4 | worth 1 0 0 = 9",
            "take 0 0 = 1 | worth 0 0 0 = 4 | say 0 1 0 = 4 | worth 0 0 0 = 4 | worth 0 1 0 = 3");
    }

    private static void hours() {
        told("one hour", "laid b0,60;w9;s0,1;", "say 0 0 0 = 9 | speaker 0 2 = 0 | say 0 0 0 = NO | block 0 2 = 9 | heard 0 0 = 1 | count 8 = 0 | count 9 = 1");
        told("nine hours", "laid b0,60;w1;s0,9;",
            "say 0 0 0 | say 0 0 0 | say 0 0 0 | say 0 0 0 | say 0 0 0 | say 0 0 0 | say 0 0 0 | speaker 0 2 = 2 | say 0 0 0 = 1 | say 0 0 0 = 1",
            "speaker 0 2 = 0 | heard 0 0 = 9 | say 0 0 0 = NO | heard 0 0 = 9");
        told("his hours, no other's", "laid b0,60;w9;s0,1;s0,2;", "say 0 0 0 = 9 | say 0 0 0 = NO | speaker 1 2 = 2 | say 1 0 0 = 17 | say 1 0 0 = 24 | say 1 0 0 = NO");
        told("hours of this day", "laid b0,60;w9;s0,1;f0;", "say 0 0 0 = 9 | say 0 0 0 = NO | pass 1 | say 0 0 0 = 17 | say 0 0 0 = NO");
        told("hours are not saved", "laid b0,60;w9;s0,2;f0;", "pass 5 | speaker 0 2 = 2 | count 8 = 2 | speaker 0 1 = 2");
        told("a word that is worth nothing takes an hour all the same", "laid b1,60;w1;w1;s0,2;", "say 0 0 1 = 0 | speaker 0 2 = 1 | heard 0 1 = 1 | count 9 = 1");
    }

    private static void inTheBed() {
        String bed = "laid b0,5;b0,5;b0,5;b0,60;w9;s0,9;p0,0,1;p0,1,1;";
        told("no word to one that is out", bed, "say 0 0 0 = 9 | block 0 3 = 1 | say 0 0 0 = NO | block 0 2 = 9 | heard 0 0 = 1 | speaker 0 2 = 8");
        told("no word to one that is placed", bed, "say 0 0 0 | take 0 1 = 1 | block 0 3 = 2 | say 0 0 0 = NO | speaker 0 2 = 8");
        told("no word to one that is cracked", bed, "say 0 0 0 | take 0 2 = 0 | block 0 3 = 3 | say 0 0 0 = NO | speaker 0 2 = 8");
        told("a word to one beside", bed, "say 0 0 0 | take 0 2 = 0 | say 0 1 0 = 8 | say 0 3 0 = 8");
        told("bad is ahead of an hour and of the bed", "laid b0,5;b0,60;w9;s0,1;", "say 0 0 0 = 9",
            "say 0 0 1 = BAD | say 1 0 0 = BAD | say 0 2 0 = BAD | say 0 1 1 = BAD | say 0 1 0 = NO | say 0 0 0 = NO");
    }

    private static void howSoft() {
        told("by what it is worth, then heard", "laid b0,60;w9;s0,9;", "worth 0 0 0 = 9 | say 0 0 0 = 9 | worth 0 0 0 = 8 | say 0 0 0 = 17 | say 0 0 0 = 24");
        told("no other is softer by it", "laid b0,60;b0,60;b0,60;w9;s0,9;", "say 0 1 0 = 9 | block 0 2 = 0 | block 1 2 = 9 | block 2 2 = 0");
        told("softer than it needs", "laid b0,10;w9;s0,9;", "say 0 0 0 = 9 | say 0 0 0 = 17 | block 0 2 = 17 | block 0 1 = 10");
    }

    private static void heardNear() {
        int[][] near = {{1, 1, 1, 0, 0, 0}, {1, 1, 1, 1, 0, 0}, {1, 1, 1, 1, 1, 0}, {0, 1, 1, 1, 1, 1}, {0, 0, 1, 1, 1, 1}, {0, 0, 0, 1, 1, 1}};
        for (int b = 0; b < 6; b++) {
            StringBuilder heard = new StringBuilder("say 0 " + b + " 1");
            for (int o = 0; o < 6; o++) heard.append(" | heard ").append(o).append(" 1 = ").append(near[b][o]).append(" | heard ").append(o).append(" 0 = 0");
            told("one or two places from " + b, SIX, heard.toString());
        }
        told("it and others once more", SIX, "say 0 2 0 | say 0 3 0 | heard 0 0 = 1 | heard 1 0 = 2 | heard 2 0 = 2 | heard 3 0 = 2 | heard 4 0 = 2 | heard 5 0 = 1");
    }

    private static void heardThrough() {
        String ends = "heard 0 1 = 0 | heard 1 1 = 0 | heard 2 1 = 1 | heard 3 1 = 1 | heard 4 1 = 1";
        String gap = "laid b0,60;b0,9;b0,60;b0,60;b0,60;w9;w1;s0,9;p0,1,1;";
        told("not through one that is out", gap, "say 0 1 0 = 9 | block 1 3 = 1 | say 0 2 1 | " + ends);
        told("not through one that is placed", gap, "say 0 1 0 = 9 | take 1 1 = 1 | say 0 2 1 | " + ends);
        told("not through one that is cracked", gap, "say 0 1 0 = 9 | take 1 2 = 0 | say 0 2 1 | " + ends);
        told("nor from the other side", gap, "say 0 1 0 = 9 | say 0 0 1 | heard 0 1 = 1 | heard 1 1 = 0 | heard 2 1 = 0 | heard 3 1 = 0");
        told("one that is out hears nothing two places away", gap, "say 0 1 0 = 9 | say 0 3 1 | heard 1 1 = 0 | heard 2 1 = 1 | heard 3 1 = 1 | heard 4 1 = 1 | heard 0 1 = 0");
        told("one that comes out by it has let it through", "laid b0,60;b0,60;b0,9;b0,60;b0,60;w9;s0,9;",
            "say 0 2 0 = 9 | block 2 3 = 1 | heard 0 0 = 1 | heard 1 0 = 1 | heard 2 0 = 1 | heard 3 0 = 1 | heard 4 0 = 1");
        told("behind an undone one it is heard through the bed", gap, "say 0 1 0 = 9 | undo = 0 | say 0 2 1 | heard 0 1 = 1 | heard 1 1 = 1");
    }

    private static void outAsSoonAs() {
        told("one less", "laid b0,10;w9;s0,9;f0;", "say 0 0 0 = 9 | block 0 3 = 0 | count 4 = 1 | count 5 = 0");
        told("as soft as it needs", "laid b0,9;w9;s0,9;", "say 0 0 0 = 9 | block 0 3 = 1 | count 4 = 0 | count 5 = 1 | block 0 4 = NONE");
        told("softer than it needs", "laid b0,8;w9;s0,9;", "say 0 0 0 = 9 | block 0 3 = 1");
        told("by a day: one less", "laid b0,10;w9;s0,9;f9;", "pass 1 | block 0 2 = 9 | block 0 3 = 0");
        told("by a day: as soft as it needs", "laid b0,9;w9;s0,9;f9;", "pass 1 | block 0 2 = 9 | block 0 3 = 1");
        told("by a day: softer", "laid b2,17;b2,18;b2,19;w9;s0,9;f9;", "pass 1 | block 0 2 = 18 | block 0 3 = 1 | block 1 3 = 1 | block 2 3 = 0");
        told("lowest and highest needs", "laid b0,1;b0,60;w20;w20;w1;s1,9;", "say 0 1 0 = 40 | say 0 0 2 = 2 | block 0 3 = 1 | say 0 1 2 = 41 | say 0 1 1 = 81 | block 1 3 = 1");
    }

    private static void promises() {
        String bed = "laid b0,5;b0,60;w9;s0,1;s0,9;";
        told("lowest and highest", bed, "promise 0 1 0 = NONE | promised 0 1 = 0 | promise 0 1 7 = 0 | promised 0 1 = 7 | promise 0 1 8 = BAD | promise 0 1 -1 = BAD | promised 0 1 = 7");
        told("hours do not matter", bed, "say 0 0 0 | speaker 0 2 = 0 | promise 0 1 3 = NONE | promised 0 1 = 3 | speaker 0 2 = 0");
        told("what he promised ahead is forgotten", bed, "promise 0 0 1 = NONE | promise 0 0 2 = 1 | say 1 0 0 | uses 0 = 4 | take 0 2 = 1");
        told("another's is not", bed, "promise 0 0 1 = NONE | promise 1 0 2 = NONE | promised 0 0 = 1 | promised 1 0 = 2 | say 1 0 0 | take 0 2 = 0");
        told("that of another block is not", bed, "promise 0 0 1 = NONE | promise 0 1 2 = NONE | promised 0 0 = 1 | promised 0 1 = 2");
        told("not one that is out", bed, "promise 1 0 4 | say 0 0 0 | promise 0 0 1 = NO | promise 1 0 1 = NO | promised 0 0 = NONE | promised 1 0 = 4 | count 9 = 2");
        told("not one that is placed or cracked", bed, "promise 1 0 4 | say 0 0 0 | take 0 4 = 1 | promise 1 0 1 = NO | undo = 2 | take 0 5 = 0 | promise 1 0 5 = NO | promised 1 0 = 4");
        told("bad is ahead of the bed", bed, "say 0 0 0 | promise 0 0 8 = BAD | promise 2 0 1 = BAD | promise 0 2 1 = BAD | promise -1 0 1 = BAD | promise 0 0 1 = NO");
    }

    private static void takings() {
        String bed = "laid b0,5;b1,5;b2,5;b0,60;w20;w20;s0,9;s0,9;p0,0,3;p1,0,3;p1,1,0;p0,2,1;p1,2,2;";
        String out = "say 0 0 0 | say 0 1 0 | say 0 2 1 | count 5 = 3";
        told("lowest and highest", bed, out, "take 1 8 = BAD | take 1 -1 = BAD | take 1 0 = 1 | block 1 4 = 0 | block 1 3 = 2 | take 2 7 = 0 | block 2 4 = 7 | block 2 3 = 3");
        told("what all have promised", bed, out, "take 0 3 = 1 | block 0 3 = 2 | block 0 4 = 3 | count 6 = 1 | count 7 = 0 | count 5 = 2");
        told("something else than all have promised", bed, out, "take 0 4 = 0 | block 0 3 = 3 | block 0 4 = 4 | count 6 = 0 | count 7 = 1 | count 5 = 2");
        told("what the first of two has promised", bed, out, "take 2 1 = 0 | block 2 3 = 3");
        told("what the last of two has promised", bed, out, "take 2 2 = 0 | block 2 3 = 3");
        told("what was promised to another block", "laid b0,5;b0,5;w9;s0,9;p0,1,3;", "say 0 0 0 | take 0 4 = 1");
        told("in the bed", bed, "take 0 3 = NO | take 0 4 = NO | block 0 3 = 0 | block 0 4 = NONE | count 9 = 0");
        told("placed", bed, out, "take 0 3 = 1 | take 0 3 = NO | take 0 4 = NO | block 0 4 = 3 | count 6 = 1 | count 9 = 4");
        told("cracked", bed, out, "take 0 4 = 0 | take 0 3 = NO | block 0 4 = 4 | count 7 = 1 | count 9 = 4");
        told("bad is ahead of out", bed, "take 0 8 = BAD | take 4 0 = BAD | take -1 0 = BAD | take 0 -1 = BAD | take 3 8 = BAD | take 3 0 = NO");
    }

    private static void chalk() {
        told("chalk does not crack", "laid b3,5;b3,5;w9;s0,9;s0,9;p0,0,1;p1,0,2;p0,1,0;",
            "say 0 0 0 | say 0 1 0 | take 0 1 = 1 | undo = 2 | take 0 7 = 1 | block 0 3 = 2 | take 1 7 = 1 | count 6 = 2 | count 7 = 0 | liars = 0");
        for (int kind = 0; kind < 3; kind++) {
            told("others do", "laid b" + kind + ",5;w9;s0,9;p0,0,1;", "say 0 0 0 | take 0 2 = 0 | block 0 3 = 3 | undo = 1 | take 0 1 = 1 | block 0 3 = 2");
        }
    }

    private static void days() {
        told("1 to 20", "laid b0,60;w9;s0,9;f0;", "pass 0 = BAD | pass -1 = BAD | pass 21 = BAD | pass MIN = BAD | pass MAX = BAD | count 3 = 0 | count 9 = 0",
            "pass 1 = 1 | pass 20 = 21 | pass 19 = 40 | count 3 = 40 | count 9 = 3");
        for (int f = 0; f <= 9; f++) {
            told("softer by frost", "laid b0,60;b1,60;b2,60;b3,60;w9;s0,9;f" + f + ";",
                "pass 1 = 1 | block 0 2 = " + f + " | block 1 2 = " + f + " | block 2 2 = " + 2 * f + " | block 3 2 = " + f,
                "pass 2 = 3 | block 0 2 = " + 3 * f + " | block 2 2 = " + 6 * f);
        }
        told("then all hours again", "laid b0,60;w9;s0,1;s0,9;s0,3;f0;", "say 0 0 0 | say 1 0 0 | count 8 = 11 | pass 1 | speaker 0 2 = 1 | speaker 1 2 = 9 | speaker 2 2 = 3 | count 8 = 13");
        told("what was heard and promised stays", "laid b0,60;w9;s0,1;p0,0,4;", "say 0 0 0 = 9 | pass 20 | heard 0 0 = 1 | promised 0 0 = 4 | worth 0 0 0 = 8");
    }

    private static void daysInTheBed() {
        String bed = "laid b0,5;b2,5;b0,5;b0,60;w9;s0,9;f3;p0,0,1;";
        told("one that is out is no softer", bed, "say 0 0 0 = 9 | pass 5 | block 0 2 = 9 | block 3 2 = 15");
        told("one that is placed or cracked is no softer", bed, "say 0 0 0 | say 0 2 0 | take 0 2 = 0 | take 2 0 = 1 | pass 5 | block 0 2 = 9 | block 2 2 = 8");
        told("out on the day on which it is soft, no softer then", bed, "pass 20 = 20 | block 0 2 = 6 | block 1 2 = 6 | block 2 2 = 6 | block 3 2 = 60 | count 5 = 4");
        told("days go by when none is in the bed", bed, "pass 20 = 20 | pass 20 = 40 | count 3 = 40 | block 3 2 = 60");
    }

    private static void undone() {
        told("nothing at first", "undo = NO | count 9 = 0");
        told("nothing behind lay", "laid b0,60;w9;s0,9;", "undo = NO | say 0 0 0 | lay = 1 | undo = NO | block 0 2 = 0");
        told("nothing behind all is undone", "laid b0,60;w9;s0,9;", "say 0 0 0 | pass 1 | undo = 1 | undo = 0 | undo = NO | count 9 = 0 | count 3 = 0 | block 0 2 = 0");
        told("nothing behind back", "laid b0,60;w9;s0,9;", "say 0 0 0 | keep = 1 | say 0 0 0 | back = 0 | undo = NO | count 9 = 0 | block 0 2 = 9");
        told("a refused call is none of these", "laid b0,5;b0,60;w9;s0,1;", "say 0 0 0 | say 0 1 0 = NO | promise 0 0 1 = NO | take 1 0 = NO | pass 0 = BAD | back = NO | count 9 = 1 | undo = 0 | undo = NO");
        told("keep, write, wipe and what asks are none of these", "laid b0,60;w9;s0,9;",
            "say 0 0 0 | keep = 1 | wipe = 14 | write 98 = 1 | best 0 | least 0 -1 | order -1 | year 5 9 0 | days 0 0 | deaf 0 0 0 3 3 0 | fault | count 9 = 1 | undo = 0 | undo = NO",
            "count 10 = 1 | count 11 = 1");
    }

    private static void undoneActs() {
        String bed = "laid b0,9;b0,60;b0,60;w9;w1;s0,9;p0,1,6;";
        told("a word", bed, "say 0 0 0 = 9 | undo = 0 | block 0 2 = 0 | block 0 3 = 0 | heard 0 0 = 0 | heard 1 0 = 0 | heard 2 0 = 0 | speaker 0 2 = 9 | count 8 = 9");
        told("a promise where there was none", bed, "promise 0 0 3 = NONE | undo = 0 | promised 0 0 = NONE | uses 0 = 255");
        told("a promise ahead of which was one", bed, "promise 0 1 3 = 6 | undo = 0 | promised 0 1 = 6");
        told("a promise that changes nothing", bed, "promise 0 1 6 = 6 | count 9 = 1 | undo = 0 | promised 0 1 = 6");
        told("a block placed", bed, "say 0 0 0 | take 0 5 = 1 | undo = 1 | block 0 3 = 1 | block 0 4 = NONE | block 0 2 = 9 | count 6 = 0");
        told("a block cracked", bed, "promise 0 0 1 | say 0 0 0 | take 0 5 = 0 | undo = 2 | block 0 3 = 1 | block 0 4 = NONE | liars = 0 | count 7 = 0");
        told("a day", bed, "say 0 1 0 | pass 1 = 1 | undo = 1 | count 3 = 0 | block 1 2 = 9 | speaker 0 2 = 8");
        told("all days that go by at one time are one", bed, "pass 3 = 3 | pass 20 = 23 | count 9 = 2 | block 0 3 = 1 | undo = 1 | count 3 = 3 | block 0 2 = 3 | block 0 3 = 0 | undo = 0 | count 3 = 0");
    }

    private static void undoneEight() {
        String bed = "laid b0,60;w9;s0,9;f0;";
        String eight = "pass 1 | pass 1 | pass 1 | pass 1 | pass 1 | pass 1 | pass 1 | count 9 = 7 | pass 1 | count 9 = 8";
        told("8 can be", bed, eight, "undo = 7 | undo = 6 | undo = 5 | undo = 4 | undo = 3 | undo = 2 | undo = 1 | undo = 0 | count 3 = 0 | undo = NO");
        told("the last 8", bed, "say 0 0 0", eight.replace("count 9 = 7", "count 9 = 8"), "undo = 7 | undo = 6 | undo = 5 | undo = 4 | undo = 3 | undo = 2 | undo = 1 | undo = 0 | undo = NO | count 3 = 0 | block 0 2 = 9");
        told("the last 8 of 17", bed, eight, eight.replace("= 7", "= 8"), "pass 1 = 17 | count 9 = 8",
            "undo = 7 | undo | undo | undo | undo | undo | undo = 1 | undo = 0 | undo = NO | count 3 = 9");
        told("8 again behind some undone", bed, eight, "undo = 7 | undo = 6 | undo = 5 | count 3 = 5 | say 0 0 0 | count 9 = 6 | promise 0 0 1 | pass 9 = 14 | count 9 = 8 | pass 1 = 15 | count 9 = 8",
            "undo = 7 | undo = 6 | count 3 = 5 | promised 0 0 = 1 | undo = 5 | promised 0 0 = NONE | block 0 2 = 9 | undo = 4 | block 0 2 = 0 | count 3 = 5",
            "undo = 3 | undo = 2 | undo = 1 | undo = 0 | count 3 = 1 | undo = NO");
    }

    private static void seen() {
        told("of a block", "laid b3,60;b2,1;w9;s0,9;",
            "block 0 0 = 3 | block 0 1 = 60 | block 0 2 = 0 | block 0 3 = 0 | block 0 4 = NONE | block 1 0 = 2 | block 1 1 = 1",
            "block 0 5 = BAD | block 0 -1 = BAD | block -1 0 = BAD | block 2 0 = BAD | block 2 5 = BAD | block MIN 0 = BAD | block MAX 4 = BAD | block 0 MIN = BAD | block 0 MAX = BAD");
        told("for what it was taken: NONE till then", "laid b0,5;w9;s0,9;", "say 0 0 0 | block 0 4 = NONE | take 0 0 | block 0 4 = 0");
        told("of a word", "laid b0,60;w20;w1;s0,9;", "word 0 = 20 | word 1 = 1 | word 2 = BAD | word -1 = BAD | word MIN = BAD | word MAX = BAD");
        told("of a speaker", "laid b0,60;w9;s3,1;s0,9;",
            "speaker 0 0 = 3 | speaker 0 1 = 1 | speaker 0 2 = 1 | speaker 1 0 = 0 | speaker 1 1 = 9 | speaker 1 2 = 9",
            "speaker 0 3 = BAD | speaker 0 -1 = BAD | speaker -1 0 = BAD | speaker 2 0 = BAD | speaker MIN 0 = BAD | speaker MAX 0 = BAD | speaker 0 MAX = BAD | speaker 0 MIN = BAD");
        told("what was heard", "laid b0,60;b0,60;w9;w9;s0,9;", "heard 1 1 = 0 | heard 2 0 = BAD | heard 0 2 = BAD | heard -1 0 = BAD | heard 0 -1 = BAD | heard MAX 0 = BAD | heard 0 MIN = BAD");
        told("what is promised", "laid b0,60;b0,60;w9;s0,9;s0,9;p1,1,0;p0,0,7;",
            "promised 0 0 = 7 | promised 1 1 = 0 | promised 0 1 = NONE | promised 1 0 = NONE",
            "promised 2 0 = BAD | promised 0 2 = BAD | promised -1 0 = BAD | promised 0 -1 = BAD | promised MAX 0 = BAD | promised 0 MIN = BAD");
        told("what is promised to one that is out, placed", "laid b0,5;w9;s0,9;p0,0,7;", "say 0 0 0 | promised 0 0 = 7 | take 0 7 | promised 0 0 = 7");
        told("worth of none", "laid b0,60;w9;s0,9;", "worth 1 0 0 = BAD | worth 0 1 0 = BAD | worth 0 0 1 = BAD | worth -1 0 0 = BAD | worth 0 -1 0 = BAD | worth 0 0 -1 = BAD | worth MAX MAX MAX = BAD | worth MIN 0 0 = BAD");
    }
}
