/** Section 4 and promises 24 to 30, sentence by sentence: liars, what was said, deaf ones, years, what is kept, counts. */
public final class YearSentencesTest {
    private static final Check check = new Check("YearSentencesTest");

    public static void main(String[] args) {
        liarsFewest();
        liarsLowest();
        liarsNone();
        saidBySofter();
        saidBounds();
        deafChance();
        deafBounds();
        deafHeard();
        yearSays();
        yearPromises();
        yearTakes();
        yearDays();
        yearBounds();
        yearChangesNothing();
        keptTwo();
        keptAsItStands();
        keptNoMore();
        keptAndUndone();
        counts();
        check.end();
    }

    private static void told(String sentence, String... rows) {
        Script.told(check, sentence, rows);
    }

    private static final String OUT = "laid b0,1;b0,1;b0,1;b0,1;w9;s0,1;s0,1;s0,1;s0,1;";

    private static void liarsFewest() {
        told("the one who lied", OUT + "p0,0,3;p1,0,5;", "pass 1 | take 0 3 = 0 | liars = 2 | undo | take 0 5 = 0 | liars = 1");
        told("one who lied about two ahead of two", OUT + "p0,0,1;p3,0,1;p1,1,1;p3,1,1;", "pass 1 | take 0 2 | take 1 2 | liars = 8");
        told("two ahead of three", OUT + "p0,0,1;p3,0,1;p1,1,1;p3,1,1;p2,2,1;", "pass 1 | take 0 2 | take 1 2 | take 2 2 | liars = 12");
        told("all four", OUT + "p0,0,1;p1,1,1;p2,2,1;p3,3,1;", "pass 1 | take 0 2 | liars = 1 | take 1 2 | liars = 3 | take 2 2 | liars = 7 | take 3 2 | liars = 15");
        told("each speaker alone", OUT + "p0,0,1;p1,1,1;p2,2,1;p3,3,1;", "pass 1 | take 1 2 | liars = 2 | undo | take 2 2 | liars = 4 | undo | take 3 2 | liars = 8");
    }

    private static void liarsLowest() {
        told("of two the lower", OUT + "p1,0,1;p3,0,1;", "pass 1 | take 0 2 | liars = 2");
        told("the lowest as bits: 6 is below 9", OUT + "p1,0,1;p3,0,1;p2,1,1;p3,1,1;p0,2,1;p1,2,1;", "pass 1 | take 0 2 | liars = 2 | take 1 2 | liars = 8 | take 2 2 | liars = 6");
        told("fewest ahead of lowest", OUT + "p0,0,1;p3,0,1;p1,1,1;p3,1,1;", "pass 1 | take 0 2 | liars = 1 | take 1 2 | liars = 8");
    }

    private static void liarsNone() {
        told("none cracked", "liars = 0");
        told("none cracked, though promises differ", OUT + "p0,0,3;p1,0,5;", "liars = 0 | pass 1 | liars = 0 | take 1 0 = 1 | liars = 0");
        told("chalk does not crack", "laid b3,1;w9;s0,1;p0,0,3;", "pass 1 | take 0 5 = 1 | liars = 0");
        told("one who has promised what it was taken for has not lied", OUT + "p0,0,2;p1,0,3;", "pass 1 | take 0 2 = 0 | liars = 2");
        told("undone", OUT + "p0,0,3;", "pass 1 | take 0 5 = 0 | liars = 1 | undo | liars = 0");
        told("nothing changes by it", OUT + "p0,0,3;", "pass 1 | take 0 5 = 0 | liars = 1 | liars = 1 | count 9 = 2 | block 0 3 = 3");
    }

    private static void saidBySofter() {
        told("how many, the first", "laid b0,60;w7;w3;w7;s0,1;s1,1;s3,1;", "said 0 7 0 = 3 | said 0 7 1 = 0 | said 0 3 0 = 2 | said 0 3 1 = 1 | said 0 14 0 = 2 | said 0 14 1 = 10 | said 0 10 0 = 1 | said 0 10 1 = 20 | said 0 6 0 = 1 | said 0 6 1 = 11");
        told("none", "laid b0,60;w7;s0,1;", "said 0 8 0 = 0 | said 0 8 1 = NONE | said 0 6 0 = 0 | said 0 6 1 = NONE");
        told("the lower speaker ahead of the lower word", "laid b0,60;w2;w5;s0,9;s3,9;", "said 0 5 0 = 3 | said 0 5 1 = 1");
        told("hours do not matter", "laid b0,60;w7;w3;s0,1;", "said 0 3 1 = 1 | say 0 0 0 | count 8 = 0 | said 0 3 0 = 1 | said 0 3 1 = 1 | said 0 6 0 = 1 | said 0 6 1 = 0 | said 0 7 0 = 0");
        told("now", "laid b0,60;b0,60;w7;s0,9;", "said 0 7 0 = 1 | say 0 1 0 | said 0 7 0 = 0 | said 0 6 0 = 1");
        told("as many as there can be", "laid b0,60;w7;w7;w7;w7;w7;w7;s0,9;s0,9;s0,9;s0,9;", "said 0 7 0 = 24 | said 0 7 1 = 0 | said 0 0 0 = 0");
        told("by 0", "laid b3,60;w7;w7;w7;w7;s0,9;s1,9;", "said 0 0 0 = 2 | said 0 0 1 = 2");
    }

    private static void saidBounds() {
        told("0 to 99", "laid b0,60;w7;s0,1;", "said 0 -1 0 = BAD | said 0 0 0 = 0 | said 0 99 0 = 0 | said 0 100 0 = BAD | said 0 MIN 1 = BAD | said 0 MAX 1 = BAD | said 0 99 1 = NONE");
        told("99 found", "laid b2,60;b2,60;b2,60;w1;w17;s0,9;s1,9;", "worth 1 0 1 = 102 | say 0 1 1 = 51 | say 0 2 1 = 50 | say 0 1 1 = 100 | worth 1 0 1 = 99 | said 0 99 0 = 1 | said 0 99 1 = 11");
        told("100 is not found", "laid b2,60;w1;w20;s1,9;", "worth 0 0 1 = 120 | said 0 120 0 = BAD | said 0 99 0 = 0");
        told("what", "laid b0,60;w7;s0,1;", "said 0 7 -1 = BAD | said 0 7 2 = BAD | said 0 7 MAX = BAD | said 0 7 MIN = BAD");
        told("no block", "laid b0,60;w7;s0,1;", "said -1 7 0 = BAD | said 1 7 0 = BAD | said MAX 7 0 = BAD | said MIN 7 0 = BAD");
        told("not in the bed", "laid b0,5;b0,5;b0,60;w7;s0,9;p0,0,1;", "say 0 0 0 | said 0 7 0 = NO | said 0 7 1 = NO | take 0 2 = 0 | said 0 7 0 = NO | say 0 1 0 | take 1 0 = 1 | said 1 7 1 = NO");
        told("bad is ahead of the bed, the bed of none", "laid b0,5;w7;s0,9;", "say 0 0 0 | said 0 100 0 = BAD | said 0 7 2 = BAD | said 0 -1 1 = BAD | said 0 50 1 = NO");
    }

    private static void deaf(String text, int n, int x, int above, int below) {
        told("deaf " + text, "laid " + text, "deaf 0 0 0 " + n + " " + x + " 0 = " + above + " | deaf 0 0 0 " + n + " " + x + " 1 = " + below + " | count 9 = 0 | count 8 = 1");
    }

    private static void deafChance() {
        int[] above = {1, 9, 4, 7, 3, 1, 2, 3, 1, 1, 0};
        int[] below = {1, 10, 5, 10, 5, 2, 5, 10, 5, 10, 1};
        for (int x = 0; x <= 10; x++) {
            deaf("b0,5;w5;s0,1;", 1, x, above[x], below[x]);
            deaf("b0,6;w5;s0,1;", 1, x, 0, 1);
            deaf("b0,5;w5;s0,1;", 0, x, 0, 1);
        }
        deaf("b0,9;w5;s0,1;", 2, 0, 1, 1);
        deaf("b0,9;w5;s0,1;", 2, 1, 81, 100);
        deaf("b0,9;w5;s0,1;", 2, 2, 16, 25);
        deaf("b0,9;w5;s0,1;", 2, 5, 1, 4);
        deaf("b0,10;w5;s0,1;", 2, 0, 0, 1);
        deaf("b0,36;w8;s0,1;", 8, 0, 1, 1);
        deaf("b0,36;w8;s0,1;", 7, 0, 0, 1);
        deaf("b0,36;w8;s0,1;", 8, 5, 1, 256);
        deaf("b0,36;w8;s0,1;", 8, 9, 1, 100000000);
        deaf("b0,36;w8;s0,1;", 8, 1, 43046721, 100000000);
        deaf("b0,36;w8;s0,1;", 8, 10, 0, 1);
        deaf("b0,37;w8;s0,1;", 8, 0, 0, 1);
        deaf("b0,35;w8;s0,1;", 7, 0, 1, 1);
        deaf("b0,1;w1;s0,1;", 8, 0, 1, 1);
        deaf("b0,2;w1;s0,1;", 8, 0, 0, 1);
        deaf("b0,1;w1;s0,1;", 8, 3, 7, 10);
        deaf("b0,1;w20;s0,1;", 8, 5, 255, 256);
        deaf("b0,1;w20;s0,1;", 8, 9, 56953279, 100000000);
    }

    private static void deafBounds() {
        told("n is 0 to 8", "laid b0,60;w7;s0,1;", "deaf 0 0 0 -1 1 0 = BAD | deaf 0 0 0 0 1 0 = 0 | deaf 0 0 0 8 1 0 = 0 | deaf 0 0 0 9 1 0 = BAD | deaf 0 0 0 MIN 1 0 = BAD | deaf 0 0 0 MAX 1 0 = BAD");
        told("x is 0 to 10", "laid b0,60;w7;s0,1;", "deaf 0 0 0 1 -1 0 = BAD | deaf 0 0 0 1 0 0 = 0 | deaf 0 0 0 1 10 0 = 0 | deaf 0 0 0 1 11 0 = BAD | deaf 0 0 0 1 MIN 0 = BAD | deaf 0 0 0 1 MAX 0 = BAD");
        told("part", "laid b0,60;w7;s0,1;", "deaf 0 0 0 1 1 -1 = BAD | deaf 0 0 0 1 1 1 = 1 | deaf 0 0 0 1 1 2 = BAD | deaf 0 0 0 1 1 MIN = BAD | deaf 0 0 0 1 1 MAX = BAD");
        told("no speaker, block, word", "laid b0,60;b0,5;w7;s0,9;", "deaf 1 0 0 1 1 0 = BAD | deaf 0 2 0 1 1 0 = BAD | deaf 0 0 1 1 1 0 = BAD | deaf -1 0 0 1 1 0 = BAD | deaf 0 -1 0 1 1 0 = BAD | deaf 0 0 -1 1 1 0 = BAD | deaf MAX 0 0 1 1 0 = BAD | deaf 0 MIN 0 1 1 0 = BAD | deaf 0 0 MAX 1 1 0 = BAD");
        told("not in the bed", "laid b0,5;b0,5;b0,60;w7;s0,9;p0,0,1;", "say 0 0 0 | deaf 0 0 0 1 1 0 = NO | deaf 0 0 0 0 0 1 = NO | take 0 2 = 0 | deaf 0 0 0 1 1 1 = NO | say 0 1 0 | take 1 0 = 1 | deaf 0 1 0 1 1 0 = NO");
        told("bad is ahead of the bed", "laid b0,5;w7;s0,9;", "say 0 0 0 | deaf 0 0 0 9 1 0 = BAD | deaf 0 0 0 1 11 0 = BAD | deaf 0 0 0 1 1 2 = BAD | deaf 1 0 0 1 1 0 = BAD | deaf 0 0 1 1 1 0 = BAD | deaf 0 0 0 1 1 0 = NO");
    }

    private static void deafHeard() {
        deaf("b0,5;w5;s0,1;", 2, 5, 1, 2);
        deaf("b0,4;w5;s0,1;", 2, 5, 3, 4);
        deaf("b0,4;w5;s0,1;", 3, 5, 3, 4);
        deaf("b0,3;w5;s0,1;", 3, 5, 7, 8);
        told("hours do not matter", "laid b0,9;b0,60;b0,60;b0,60;w5;s0,1;", "deaf 0 0 0 2 0 0 = 1 | say 0 3 0 | heard 0 0 = 0 | speaker 0 2 = 0 | deaf 0 0 0 2 0 0 = 1 | deaf 0 0 0 2 5 1 = 4");
        told("as it was heard, as soft as it is", "laid b0,9;b0,60;w5;s0,9;f1;", "deaf 0 0 0 2 0 0 = 1 | say 0 1 0 | deaf 0 0 0 2 0 0 = 0 | deaf 0 0 0 3 0 0 = 1 | pass 2 | deaf 0 0 0 2 0 0 = 1 | deaf 0 0 0 2 0 1 = 1");
        told("by a speaker, a word", "laid b0,60;b1,15;w5;w3;w5;s0,9;s1,9;s3,9;", "deaf 0 1 0 1 4 0 = 0 | deaf 1 1 0 1 4 0 = 3 | deaf 1 1 0 1 4 1 = 5 | deaf 2 1 0 1 4 0 = 0 | deaf 2 1 0 2 4 0 = 9 | deaf 2 1 0 2 4 1 = 25 | deaf 1 1 1 8 0 0 = 0");
        told("nothing changes by it", "laid b0,9;b0,60;w5;s0,9;", "deaf 0 0 0 8 3 0 | heard 0 0 = 0 | heard 1 0 = 0 | block 0 2 = 0 | speaker 0 2 = 9 | count 9 = 0");
    }

    /** By speaker and word, a year whose first two draws are that saying, and that the block is taken. */
    private static final int[] YEARS = {76, 162, 286, 459, 144, 398, 124, 58, 27, 304, 479, 70, 306, 983, 157, 387, 48, 397, 43, 527, 549, 91, 215, 299};

    private static void yearSays() {
        for (int s = 0; s < 4; s++) {
            for (int w = 0; w < 6; w++) {
                StringBuilder text = new StringBuilder("laid b0,10;");
                for (int i = 0; i < 6; i++) text.append(i == w ? "w5;" : "w1;");
                for (int i = 0; i < 4; i++) text.append(i == s ? "s1,9;" : "s0,9;");
                StringBuilder due = new StringBuilder("count 8 = 36");
                for (int i = 0; i < 24; i++) due.append(" | year ").append(YEARS[i]).append(" 2 0 = ").append(i == 6 * s + w ? 1 : 0);
                told("speaker " + s + " says word " + w, text + "f0;", due.toString());
            }
        }
        int[] zs = {231, 43, 58, 27, 57};
        for (int i = 0; i < 5; i++) {
            told("if it is " + i + " he says it", "laid b0,5;w5;s0,1;f0;", "year " + zs[i] + " 1 0 = 0 | year " + zs[i] + " 2 0 = 1 | year " + zs[i] + " 2 1 = 0");
            told("if he can: no hour", "laid b0,9;w5;s0,1;f0;", "say 0 0 0 = 5 | year " + zs[i] + " 2 0 = 0");
            told("if he can: an hour", "laid b0,9;w5;s0,2;f0;", "say 0 0 0 = 5 | year " + zs[i] + " 2 0 = 1");
        }
        told("two hours are two", "laid b0,9;w5;s0,2;f0;", "year 17 3 0 = 1 | year 17 2 0 = 0");
        told("one hour is one", "laid b0,9;w5;s0,1;f0;", "year 17 3 0 = 0");
    }

    private static void yearPromises() {
        told("promised 3, said, taken for 6", "laid b0,5;w5;s0,9;", "year 114 2 1 = 0 | year 114 3 1 = 1 | year 114 3 0 = 0");
        told("promised 3, said, taken for 3", "laid b0,5;w5;s0,9;", "year 882 2 0 = 0 | year 882 3 0 = 1 | year 882 3 1 = 0");
        told("what was promised ahead is forgotten", "laid b0,5;w5;s0,9;p0,0,1;", "year 882 3 0 = 1 | year 882 3 1 = 0");
        told("not to one that is out", "laid b0,5;w5;s0,9;", "say 0 0 0 | year 19 1 0 = 0 | year 19 2 0 = 1 | year 19 2 1 = 0 | promised 0 0 = NONE");
    }

    private static void yearTakes() {
        told("taken for 6", "laid b0,5;w5;s0,9;p0,0,6;", "year 3 1 0 = 0 | say 0 0 0 | year 3 1 0 = 1 | year 3 1 1 = 0");
        told("taken for 6, promised 5", "laid b0,5;w5;s0,9;p0,0,5;", "say 0 0 0 | year 3 1 0 = 0 | year 3 1 1 = 1");
        told("taken for 0", "laid b0,5;w5;s0,9;p0,0,0;", "say 0 0 0 | year 9997 1 0 = 1 | year 9997 1 1 = 0");
        told("taken for 0, promised 7", "laid b0,5;w5;s0,9;p0,0,7;", "say 0 0 0 | year 9997 1 0 = 0 | year 9997 1 1 = 1");
        told("chalk does not crack", "laid b3,5;w5;s0,9;p0,0,5;", "say 0 0 0 | year 3 1 0 = 1 | year 3 1 1 = 0");
        told("not one in the bed", "laid b0,6;w5;s0,9;", "say 0 0 0 | year 3 1 0 = 0");
        told("not one that is placed already", "laid b0,5;w5;s0,9;p0,0,3;", "say 0 0 0 | year 87 1 0 = 1 | year 87 2 0 = 1 | year 87 2 1 = 0 | take 0 3 = 1 | year 87 2 0 = 1 | year 87 2 1 = 0");
        int[] blocks = {1, 1, 1, 0, 1};
        for (int many = 2; many <= 6; many++) {
            StringBuilder text = new StringBuilder("laid ");
            for (int b = 0; b < many; b++) text.append("b0,1;");
            text.append("w9;s0,1;");
            for (int b = 0; b < many; b++) text.append("p0,").append(b).append(b == blocks[many - 2] ? ",6;" : ",5;");
            told("a block of " + many, text.toString(), "pass 1 | year 9986 1 0 = 1 | year 9986 1 1 = 0");
            told("a block of " + many + ", promised otherwise", text.toString().replace(",6;", ",7;").replace(",5;", ",6;"), "pass 1 | year 9986 1 0 = 0 | year 9986 1 1 = 1");
        }
    }

    private static void yearDays() {
        told("a day, taken", "laid b0,5;w5;s0,9;f5;", "year 36 1 0 = 0 | year 36 2 0 = 1 | year 36 2 1 = 0");
        told("a day, not out", "laid b0,6;w5;s0,9;f5;", "year 36 2 0 = 0");
        told("slate, twice that", "laid b2,10;w5;s0,9;f5;", "year 36 2 0 = 1");
        told("said, a day, said, taken", "laid b0,11;w5;s0,1;f2;", "year 375 3 0 = 0 | year 375 4 0 = 1");
        told("said, a day, said, in the bed", "laid b0,12;w5;s0,1;f2;", "year 375 4 0 = 0");
    }

    private static void yearBounds() {
        told("z is 0 to 9999", "laid b0,60;w7;s0,1;", "year -1 1 0 = BAD | year 0 1 0 = 0 | year 9999 1 0 = 0 | year 10000 1 0 = BAD | year MIN 1 0 = BAD | year MAX 1 0 = BAD");
        told("n is 1 to 60", "laid b0,60;w7;s0,1;", "year 1 0 0 = BAD | year 1 1 0 = 0 | year 1 60 0 = 0 | year 1 61 0 = BAD | year 1 -1 0 = BAD | year 1 MIN 0 = BAD | year 1 MAX 0 = BAD");
        told("what", "laid b0,60;w7;s0,1;", "year 1 1 -1 = BAD | year 1 1 1 = 0 | year 1 1 2 = BAD | year 1 1 MIN = BAD | year 1 1 MAX = BAD");
        told("the 60th counts", "laid b0,1;b0,1;b0,1;b0,1;b0,1;b0,1;w9;s0,9;", "pass 1 | year 1382 59 0 = 0 | year 1382 60 0 = 1 | year 5206 59 0 = 0 | year 5206 60 0 = 1");
        told("the first counts", "laid b0,5;w5;s0,9;", "say 0 0 0 | year 3 1 0 = 1 | year 13 1 0 = 1 | year 9986 1 0 = 1 | year 0 1 0 = 0 | year 4 1 0 = 0");
        told("draws of large numbers", "laid b0,5;w5;s0,9;p0,0,1;", "say 0 0 0 | year 9991 1 0 = 1 | year 9997 1 1 = 1 | year 9999 1 0 = 0 | year 9999 1 1 = 0");
    }

    private static void yearChangesNothing() {
        told("from now on", "laid b0,5;b0,60;w5;s0,9;p0,0,1;", "say 0 0 0 | take 0 2 = 0 | year 0 1 0 = 0 | year 0 1 1 = 1 | undo | take 0 1 = 1 | year 0 1 0 = 1 | year 0 1 1 = 0");
        told("nothing changes by it", "laid b0,5;b0,9;w5;s0,9;s1,3;", "year 77 60 0 | count 3 = 0 | count 4 = 2 | count 8 = 12 | count 9 = 0 | block 0 2 = 0 | block 1 2 = 0 | heard 0 0 = 0 | heard 1 0 = 0 | promised 0 0 = NONE | promised 1 1 = NONE");
        told("the same again", "year 77 60 0 = 1 | year 77 60 0 = 1 | year 77 60 1 = 1 | year 77 60 1 = 1");
    }

    private static void keptTwo() {
        told("2 at most", "keep = 1 | count 10 = 1 | keep = 2 | count 10 = 2 | keep = FULL | count 10 = 2 | back = 1 | back = 0 | back = NO | count 10 = 0");
        told("nothing kept at first, behind lay", "back = NO", "laid b0,60;w7;s0,1;", "keep = 1 | lay = 1 | back = NO | keep = 1 | keep = 2");
        told("room again behind back", "keep | keep | back = 1 | keep = 2 | keep = FULL");
        told("what is refused is not kept", "laid b0,60;w7;s0,9;f1;", "keep = 1 | pass 1 | keep = 2 | pass 2 | keep = FULL | back = 1 | count 3 = 1 | back = 0 | count 3 = 0");
    }

    private static void keptAsItStands() {
        String acts = "say 0 0 0 = 5 | promise 0 0 6 = 2 | pass 2 = 2 | say 0 1 0 = 6 | take 1 3 = 0 | keep = 1";
        String more = "pass 3 | say 0 0 0 | promise 0 0 1 | promise 1 0 1";
        String stands = "count 3 = 2 | block 0 2 = 7 | block 0 3 = 0 | block 1 2 = 6 | block 1 3 = 3 | block 1 4 = 3 | heard 0 0 = 2 | heard 1 0 = 2"
            + " | promised 0 0 = 6 | promised 1 0 = NONE | promised 0 1 = 4 | speaker 0 2 = 1 | speaker 1 2 = 3 | count 8 = 4 | liars = 1";
        String text = "laid b0,60;b0,6;w5;s0,2;s0,3;f1;p0,0,2;p0,1,4;";
        told("as kept", text, acts, stands, more, "back = 0", stands);
        told("the last one", text, "keep = 1", acts.replace("keep = 1", "keep = 2"), more, "back = 1", stands, "back = 0 | count 3 = 0 | block 0 2 = 0 | block 1 3 = 0 | promised 0 0 = 2 | speaker 0 2 = 2");
        told("but the text", "laid b0,60;w7;s0,1;", "keep = 1 | wipe = 14", "type w9;", "back = 0 | count 11 = 3 | fault = NONE | lay = NO");
        told("a fault in the text stays", "keep = 1", "type x", "back = 0 | fault = 0 | count 11 = 1");
    }

    private static void keptNoMore() {
        told("it is kept no more then", "laid b0,60;w7;s0,9;f1;", "keep | pass 1 | keep | pass 1 | back = 1 | count 3 = 1 | pass 5 | back = 0 | count 3 = 0 | pass 1 | back = NO | count 3 = 1");
        told("kept again", "laid b0,60;w7;s0,9;f1;", "pass 1 | keep = 1 | pass 1 | back = 0 | keep = 1 | pass 1 | back = 0 | count 3 = 1");
        told("many times, one behind the other", "laid b0,60;w7;s0,9;f1;", "keep = 1 | pass 1 | keep = 2 | pass 1 | back = 1 | pass 2 | keep = 2 | pass 1 | keep = FULL | back = 1 | count 3 = 3 | back = 0 | count 3 = 0 | back = NO");
    }

    private static void keptAndUndone() {
        told("nothing is undone behind back", "laid b0,60;w7;s0,9;", "say 0 0 0 | say 0 0 0 | keep | say 0 0 0 | back = 0 | count 9 = 0 | undo = NO | block 0 2 = 13 | pass 1 | undo = 0 | undo = NO | block 0 2 = 13");
        told("keep leaves what can be undone", "laid b0,60;w7;s0,9;", "say 0 0 0 | keep | count 9 = 1 | undo = 0 | block 0 2 = 0 | count 10 = 1 | back = 0 | block 0 2 = 7");
        told("undo leaves the text", "laid b0,60;w7;s0,9;", "say 0 0 0 | wipe = 14", "type w9;", "undo = 0 | count 11 = 3 | fault = NONE | undo = NO | count 11 = 3");
        told("undo leaves what is kept", "laid b0,60;w7;s0,9;", "pass 1 | keep | pass 1 | undo = 1 | undo = 0 | count 3 = 0 | count 10 = 1 | back = 0 | count 3 = 1");
        told("a back that is refused leaves what can be undone", "laid b0,60;w7;s0,9;", "say 0 0 0 | pass 1 | back = NO | count 9 = 2 | undo = 1 | undo = 0 | block 0 2 = 0");
    }

    private static void counts() {
        told("at first", "count 0 = 6 | count 1 = 5 | count 2 = 4 | count 3 = 0 | count 4 = 6 | count 5 = 0 | count 6 = 0 | count 7 = 0 | count 8 = 15 | count 9 = 0 | count 10 = 0 | count 11 = 0");
        told("0 to 11", "count -1 = BAD | count 12 = BAD | count 13 = BAD | count MIN = BAD | count MAX = BAD");
        told("later", "laid b0,1;b0,1;b0,1;b0,60;w9;w1;s0,9;s0,4;s0,1;p0,0,0;", "pass 3 | take 0 1 | take 1 1 | say 0 3 0 | say 1 3 0 | keep | write 98",
            "count 0 = 4 | count 1 = 2 | count 2 = 3 | count 3 = 3 | count 4 = 1 | count 5 = 1 | count 6 = 1 | count 7 = 1 | count 8 = 12 | count 9 = 5 | count 10 = 1 | count 11 = 50");
        told("hours left of all", "laid b0,60;w9;s0,9;s0,9;s0,9;s0,9;", "count 8 = 36 | say 3 0 0 | count 8 = 35 | say 0 0 0 | count 8 = 34 | pass 1 | count 8 = 36");
    }
}
