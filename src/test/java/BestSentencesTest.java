/** Section 3 and promises 17 to 23, sentence by sentence: what is best. */
public final class BestSentencesTest {
    private static final Check check = new Check("BestSentencesTest");

    public static void main(String[] args) {
        leastOneToFour();
        leastFewest();
        leastFirst();
        leastHours();
        leastRefused();
        best();
        bestNone();
        orderMost();
        orderFirst();
        orderBest();
        orderOfSome();
        daysFrom0To30();
        daysOfOne();
        daysRefused();
        frost();
        frostRefused();
        uses();
        harmLeast();
        harmHeard();
        harmMost();
        harmNone();
        check.end();
    }

    private static void told(String sentence, String... rows) {
        Script.told(check, sentence, rows);
    }

    /** LEAST for block 0 is this row; with none, there is no row. */
    private static void least(String sentence, String text, int... row) {
        StringBuilder due = new StringBuilder("least 0 -1 = ").append(row.length == 0 ? "NONE" : "" + row.length);
        for (int k = 0; k < 6; k++) due.append(" | least 0 ").append(k).append(" = ").append(k < row.length ? "" + row[k] : "NONE");
        due.append(" | least 0 MAX = NONE | least 0 -2 = BAD | least 0 MIN = BAD");
        told(sentence + " " + text, "laid " + text, due.toString());
    }

    private static void leastOneToFour() {
        least("1", "b0,1;w5;s0,9;", 0);
        least("1, as soft as it needs", "b0,5;w5;s0,9;", 0);
        least("2", "b0,6;w5;s0,9;", 0, 0);
        least("2, as soft as it needs", "b0,9;w5;s0,9;", 0, 0);
        least("3", "b0,10;w5;s0,9;", 0, 0, 0);
        least("3, as soft as it needs", "b0,12;w5;s0,9;", 0, 0, 0);
        least("4", "b0,13;w5;s0,9;", 0, 0, 0, 0);
        least("4, as soft as it needs", "b0,14;w5;s0,9;", 0, 0, 0, 0);
        least("5 are too many", "b0,15;w5;s0,9;");
        least("the highest need", "b0,60;w17;s0,9;", 0, 0, 0, 0);
        least("no row at all", "b1,60;w1;s0,9;");
        told("as soft as it is by frost", "laid b0,60;w5;s0,9;f9;", "least 0 -1 = NONE | pass 6 | least 0 -1 = 2 | least 0 0 = 0 | least 0 1 = 0 | least 0 2 = NONE");
        told("as often as it was heard", "laid b0,9;b0,60;w5;s0,9;", "least 0 -1 = 2 | say 0 1 0 | least 0 -1 = 3 | say 0 1 0 | least 0 -1 = NONE");
    }

    private static void leastFewest() {
        least("fewer ahead of lower ones", "b0,10;w5;s0,9;s1,9;", 10);
        least("fewer ahead of lower words", "b0,10;w5;w5;w5;w10;s0,9;", 3);
        least("2 ahead of 3", "b0,20;w7;w7;w7;w10;w10;s0,9;", 3, 4);
        least("3 ahead of 4", "b0,27;w7;w10;s0,9;", 1, 1, 1);
    }

    private static void leastFirst() {
        least("the lower speaker", "b0,5;w5;s0,9;s0,9;", 0);
        least("the lower speaker ahead of the lower word", "b0,5;w2;w5;s0,9;s3,9;", 1);
        least("the lower word", "b0,5;w4;w5;w5;s0,9;", 1);
        least("by the first saying", "b0,17;w8;w9;s0,9;", 0, 1);
        least("by the second saying", "b0,17;w9;w8;w8;s0,9;", 0, 0);
        least("by the second saying, a higher word", "b0,18;w9;w9;w9;s0,9;", 0, 1);
        least("by the second saying, a higher speaker", "b0,18;w9;w9;s0,1;s0,9;", 0, 11);
        least("by the third saying", "b0,27;w9;w9;w9;w9;s0,9;", 0, 1, 2);
        least("by the fourth saying", "b0,36;w9;w9;w9;w9;w9;w9;s0,9;", 0, 1, 2, 3);
        least("a word once more ahead of the next one", "b0,40;w9;w9;w9;w3;w3;w12;s0,9;", 0, 0, 5, 5);
        least("the next one where that does not do", "b0,41;w9;w9;w9;w3;w3;w12;s0,9;", 0, 1, 5, 5);
        least("a saying that is first though worth less", "b0,20;w1;w19;s0,9;", 0, 1);
    }

    private static void leastHours() {
        least("as many as there are hours", "b0,14;w5;s0,4;", 0, 0, 0, 0);
        least("one hour too few", "b0,14;w5;s0,3;");
        least("an hour of another", "b0,14;w5;s0,3;s0,1;", 0, 0, 0, 10);
        least("hours of four", "b0,14;w5;s0,1;s0,1;s0,1;s0,1;", 0, 10, 20, 30);
        least("the best one has one hour alone", "b0,24;w10;s1,1;s0,9;", 0, 10);
        told("hours that are left", "laid b0,9;b0,60;b0,60;b0,60;w5;s0,2;", "least 0 -1 = 2 | say 0 3 0 | heard 0 0 = 0 | least 0 -1 = NONE | least 0 0 = NONE");
        told("no day goes by", "laid b0,9;b0,60;b0,60;b0,60;w5;s0,1;f9;", "least 0 -1 = NONE | say 0 3 0 | least 3 -1 = NONE | count 3 = 0");
        told("no hour is left", "laid b0,9;w5;s0,1;f0;", "say 0 0 0 | least 0 -1 = NONE | least 0 0 = NONE | pass 1 | least 0 -1 = 1 | least 0 0 = 0");
    }

    private static void leastRefused() {
        String bed = "laid b0,5;b0,5;b0,5;b0,60;w5;w5;s0,3;p0,1,3;";
        told("not in the bed", bed, "say 0 0 0 | least 0 -1 = NO | least 0 0 = NO | least 0 4 = NO | say 0 1 1 | say 0 2 0 | pass 1",
            "take 1 2 = 0 | least 1 -1 = NO | least 1 0 = NO | take 0 2 = 1 | least 0 -1 = NO");
        told("bad is ahead of the bed", bed, "say 0 0 0 | least 0 -2 = BAD | least 0 MIN = BAD | least 4 -1 = BAD | least -1 -1 = BAD | least 4 -2 = BAD | least MAX 0 = BAD | least MIN 0 = BAD");
        told("the bed is ahead of none", "laid b0,5;w5;s0,1;", "say 0 0 0 | count 8 = 0 | least 0 -1 = NO | least 0 3 = NO");
    }

    private static void best() {
        told("the one worth most", "laid b0,60;w3;w5;w4;s0,9;", "best 0 = 1");
        told("of all speakers", "laid b0,60;w3;w5;w4;s0,9;s0,9;s1,9;s0,9;", "best 0 = 21");
        told("of several the lower speaker", "laid b0,60;w5;s0,9;s0,9;", "best 0 = 0");
        told("of several the lower word", "laid b0,60;w4;w5;w5;s0,9;", "best 0 = 1");
        told("the lower speaker ahead of the lower word", "laid b0,60;w2;w5;s0,9;s3,9;", "best 0 = 1");
        told("there", "laid b1,60;b2,60;b3,60;b0,60;w5;w9;w14;s0,9;", "best 0 = 0 | best 1 = 1 | best 2 = 1 | best 3 = 2");
        told("now", "laid b0,60;w5;w5;s0,9;", "best 0 = 0 | say 0 0 0 | best 0 = 1 | say 0 0 1 | best 0 = 0 | say 0 0 0 | best 0 = 1");
        told("of one who has an hour left", "laid b0,60;w5;s1,1;s0,9;s1,1;", "best 0 = 0 | say 0 0 0 | best 0 = 20 | say 2 0 0 | best 0 = 10 | pass 1 | best 0 = 0");
        told("the last speaker and the last word", "laid b0,60;w1;w1;w1;w1;w1;w2;s0,9;s0,9;s0,9;s1,9;", "best 0 = 35");
    }

    private static void bestNone() {
        told("worth 1", "laid b0,60;w1;s0,9;", "best 0 = 0 | say 0 0 0 | best 0 = NONE | speaker 0 2 = 8");
        told("no hour left", "laid b0,60;w9;s0,1;", "say 0 0 0 | best 0 = NONE | pass 1 | best 0 = 0");
        told("not in the bed", "laid b0,5;b0,5;b0,60;w9;s0,9;p0,0,1;", "say 0 0 0 | best 0 = NO | take 0 2 = 0 | best 0 = NO | say 0 1 0 | take 1 0 = 1 | best 1 = NO");
        told("the bed is ahead of none", "laid b0,5;w9;s0,1;", "say 0 0 0 | best 0 = NO");
        told("no block", "laid b0,5;w9;s0,1;", "say 0 0 0 | best 1 = BAD | best -1 = BAD | best MIN = BAD | best MAX = BAD");
    }

    /** ORDER is this row, of which so many come out. */
    private static void order(String sentence, String text, int out, int... row) {
        StringBuilder due = new StringBuilder("order -1 = ").append(out);
        for (int k = 0; k < 8; k++) due.append(" | order ").append(k).append(" = ").append(k < row.length ? "" + row[k] : "NONE");
        due.append(" | order MAX = NONE | order -2 = BAD | order MIN = BAD");
        told(sentence + " " + text, "laid " + text, due.toString());
    }

    private static void orderMost() {
        order("one", "b0,5;w5;s0,1;", 1, 0);
        order("one that stays", "b0,6;w5;s0,1;", 0, 0);
        order("six", "b0,1;b0,1;b0,1;b0,1;b0,1;b0,1;w9;s0,6;", 6, 0, 1, 2, 3, 4, 5);
        order("five of six", "b0,1;b0,1;b0,1;b0,1;b0,1;b0,1;w9;s0,5;", 5, 0, 1, 2, 3, 4, 5);
        order("most of them", "b0,60;b0,1;w9;s0,1;", 1, 1, 0);
        order("two small ones ahead of one large one", "b0,17;b0,1;b0,60;b0,60;b0,1;w9;s0,2;", 2, 1, 4, 0, 2, 3);
        order("none comes out", "b0,60;b0,60;b0,60;w9;s0,9;", 0, 0, 1, 2);
    }

    private static void orderFirst() {
        order("of several the first", "b0,1;b0,1;b0,1;w9;s0,1;", 1, 0, 1, 2);
        order("who is first, then second", "b0,60;b0,1;b0,60;b0,1;b0,60;w20;s0,2;", 2, 1, 3, 0, 2, 4);
        order("first as soon as it makes no difference", "b0,60;b0,1;w1;s0,9;", 1, 1, 0);
        order("the last one first", "b0,60;b0,60;b0,1;w1;s0,9;", 1, 2, 0, 1);
    }

    private static void orderBest() {
        order("again and again", "b0,17;w9;s0,2;", 1, 0);
        order("till there is no hour", "b0,18;b0,1;w9;s0,2;", 1, 1, 0);
        order("each by best, not by the first", "b0,9;b0,1;w1;w9;s0,2;", 2, 0, 1);
        order("till none is worth anything: hours are left for others", "b1,60;b0,60;b0,60;b0,9;w1;w9;s0,9;", 1, 0, 3, 1, 2);
        order("one hour fewer: just as many as are wanted", "b1,60;b0,60;b0,60;b0,9;w1;w9;s0,7;", 1, 0, 3, 1, 2);
        order("two hours fewer: none left for the other", "b1,60;b0,60;b0,60;b0,9;w1;w9;s0,6;", 1, 3, 0, 1, 2);
        order("no day goes by", "b0,9;b2,9;w1;s0,1;f9;", 0, 0, 1);
        order("what one hears while another is asked for", "b0,9;b0,9;w9;s0,9;", 2, 0, 1);
        order("by the last speaker, the last word", "b0,9;b0,8;w1;w1;w1;w1;w1;w5;s0,9;s0,9;s0,9;s1,2;", 2, 0, 1);
        order("by the second speaker, whose hours are few", "b0,11;b0,9;w1;w6;s0,1;s1,1;", 1, 0, 1);
        order("heard by those in the bed alone", "b0,9;b0,9;w9;s0,2;", 1, 0, 1);
    }

    private static void orderOfSome() {
        String bed = "laid b0,9;b0,60;b0,8;b0,60;w9;s0,9;p0,2,3;";
        told("those in the bed alone", bed, "say 0 0 0 | order 0 = 2 | order 1 = 1 | order 2 = 3 | order 3 = NONE | order -1 = 1",
            "say 0 2 0 | block 2 3 = 1 | order -1 = 0 | order 0 = 1 | order 1 = 3 | order 2 = NONE | take 2 0 = 0 | take 0 0 = 1 | order -1 = 0 | order 0 = 1 | order 2 = NONE");
        told("none in the bed", "laid b0,5;w9;s0,9;", "say 0 0 0 | order -1 = 0 | order 0 = NONE | order -2 = BAD | take 0 0 | order -1 = 0 | order 0 = NONE");
        told("no hour left", "laid b0,60;b0,5;w9;s0,1;", "say 0 0 0 | order -1 = 0 | order 0 = 0 | order 1 = 1 | order 2 = NONE");
        told("as soft as they are", "laid b0,60;b0,60;w9;s0,1;f9;", "pass 6 | say 0 1 0 | block 1 3 = 1 | pass 20 | order -1 = 0 | undo | order -1 = 0 | order 0 = 0 | order 1 = NONE",
            "undo = 1 | order -1 = 1 | order 0 = 0 | order 1 = 1");
    }

    private static void days(String sentence, String text, String days) {
        told(sentence + " " + text, "laid " + text, "days 0 0 = " + days + " | count 3 = 0 | block 0 2 = 0");
    }

    private static void daysFrom0To30() {
        days("today", "b0,5;w5;s0,1;f0;", "0");
        days("today, by all his hours", "b0,9;w5;s0,2;f0;", "0");
        days("tomorrow", "b0,9;w5;s0,1;f0;", "1");
        days("30", "b0,31;w1;s0,1;f1;", "30");
        days("29", "b0,30;w1;s0,1;f1;", "29");
        days("31 are too many", "b0,32;w1;s0,1;f1;", "NONE");
        days("far too many", "b0,60;w1;s0,1;f1;", "NONE");
        days("slate, 30", "b2,60;w1;s0,1;f1;", "30");
        days("never", "b0,60;w1;s0,9;f0;", "NONE");
        days("one word less than it needs", "b0,16;w5;s0,9;f0;", "NONE");
        days("all that one word is worth", "b0,15;w5;s0,9;f0;", "0");
    }

    private static void daysOfOne() {
        days("that speaker alone", "b0,9;w5;s0,1;s1,9;f0;", "1");
        days("what is worth most by him", "b0,9;w1;w9;w2;s0,1;f0;", "0");
        days("then what is worth most by him", "b0,17;w1;w9;w2;s0,1;f0;", "1");
        days("as long as it is above 0: frost alone from then on", "b0,3;w1;s0,9;f1;", "2");
        days("frost ahead of his words", "b0,10;w5;s0,1;f1;", "1");
        days("by frost on a day, ahead of his words", "b0,7;w5;s0,1;f2;", "1");
        days("hours on each day", "b0,30;w9;s0,2;f0;", "1");
        days("slate softer by twice the frost", "b2,11;w1;s0,1;f5;", "1");
        told("nothing but frost from then on, whatever others hear", "laid b0,60;b3,12;w1;w1;w20;w1;w1;w1;s0,9;f1;", "days 1 0 = 7");
        told("an hour that is gone today", "laid b0,9;b0,60;b0,60;b0,60;w5;s0,1;s0,2;f0;", "days 0 0 = 1 | days 0 1 = 0 | say 0 3 0 | heard 0 0 = 0 | days 0 0 = 2 | days 0 1 = 0");
        told("as often as it was heard", "laid b0,9;b0,60;w5;s0,1;s0,9;f0;", "days 0 0 = 1 | say 1 1 0 | days 0 0 = 2 | days 0 1 = 0 | say 1 1 0 | days 0 0 = NONE");
        told("as soft as it is", "laid b0,60;w5;s0,1;f9;", "days 0 0 = 5 | pass 3 | days 0 0 = 3 | pass 3 | days 0 0 = 1 | count 3 = 6");
        told("the last speaker", "laid b0,9;w5;s0,1;s0,1;s0,1;s1,1;f0;", "days 0 2 = 1 | days 0 3 = 0");
    }

    private static void daysRefused() {
        String bed = "laid b0,5;b0,5;b0,60;w9;s0,9;p0,0,1;";
        told("not in the bed", bed, "say 0 0 0 | days 0 0 = NO | take 0 2 = 0 | days 0 0 = NO | say 0 1 0 | take 1 2 = 1 | days 1 0 = NO");
        told("bad is ahead of the bed", bed, "say 0 0 0 | days 0 1 = BAD | days 0 -1 = BAD | days 3 0 = BAD | days -1 0 = BAD | days MAX 0 = BAD | days 2 MIN = BAD | days 0 MAX = BAD");
        told("the bed is ahead of none", "laid b0,5;w9;s0,1;f0;", "say 0 0 0 | days 0 0 = NO");
    }

    /** The first day by which so much frost is as much as is lacking, one day behind the other. */
    private static String firstDay(int lack, int frost) {
        int soft = 0;
        for (int d = 1; d <= 60; d++) {
            soft += frost;
            if (soft >= lack) return "" + d;
        }
        return "NONE";
    }

    private static void frost() {
        for (int f = 0; f <= 9; f++) {
            for (int need = 1; need <= 60; need++) {
                told("frost", "laid b" + need % 2 + "," + need + ";b2," + need + ";b3," + need + ";w1;s0,1;f" + f + ";",
                    "frost 0 = " + firstDay(need, f) + " | frost 1 = " + firstDay(need, 2 * f) + " | frost 2 = " + firstDay(need, f));
            }
        }
        told("60", "laid b0,60;w1;s0,1;f1;", "frost 0 = 60 | pass 20 | frost 0 = 40 | pass 20 | pass 19 | frost 0 = 1 | count 4 = 1 | pass 1 | count 5 = 1");
        told("nothing being said", "laid b0,60;w9;s0,9;f2;", "frost 0 = 30 | say 0 0 0 | frost 0 = 26 | count 3 = 0");
        told("without frost none", "laid b0,1;b2,1;w1;s0,1;f0;", "frost 0 = NONE | frost 1 = NONE");
        told("1 without", "laid b0,60;b2,60;w1;s0,1;", "frost 0 = 60 | frost 1 = 30");
    }

    private static void frostRefused() {
        told("not in the bed", "laid b0,5;b0,5;b0,60;w9;s0,9;f0;p0,0,1;", "say 0 0 0 | frost 0 = NO | take 0 2 = 0 | frost 0 = NO | say 0 1 0 | take 1 2 = 1 | frost 1 = NO | frost 2 = NONE");
        told("no block", "laid b0,5;w9;s0,9;", "frost 1 = BAD | frost -1 = BAD | frost MIN = BAD | frost MAX = BAD");
    }

    private static void uses() {
        told("all if nothing is promised", "laid b0,5;w9;s0,9;", "uses 0 = 255 | say 0 0 0 | uses 0 = 255");
        for (int u = 0; u <= 7; u++) {
            told("what is promised alone", "laid b0,5;w9;s0,9;s0,9;p0,0," + u + ";", "uses 0 = " + (1 << u), "promise 1 0 " + u + " | uses 0 = " + (1 << u) + " | say 0 0 0 | uses 0 = " + (1 << u));
        }
        told("none if two have promised two things", "laid b0,5;w9;s0,9;s0,9;p0,0,0;p1,0,7;", "uses 0 = 0 | say 0 0 0 | uses 0 = 0");
        told("what is promised to another", "laid b0,5;b0,5;w9;s0,9;p0,1,3;", "uses 0 = 255 | uses 1 = 8");
        told("chalk for all", "laid b3,5;w9;s0,9;s0,9;p0,0,0;p1,0,7;", "uses 0 = 255 | say 0 0 0 | uses 0 = 255");
        told("placed or cracked", "laid b0,5;b0,5;b3,5;w9;s0,9;p0,0,1;p0,1,1;", "say 0 0 0 | say 0 1 0 | say 0 2 0 | take 0 1 = 1 | uses 0 = NO | take 1 2 = 0 | uses 1 = NO | uses 2 = 255 | take 2 2 = 1 | uses 2 = NO");
        told("no block", "laid b0,5;w9;s0,9;", "uses 1 = BAD | uses -1 = BAD | uses MIN = BAD | uses MAX = BAD");
    }

    private static void harm(String sentence, String text, String saying) {
        told(sentence + " " + text, "laid " + text, "harm 0 = " + saying);
    }

    private static void harmLeast() {
        harm("the word that is worth least to the other", "b0,60;b0,60;w5;w3;w4;s0,9;", "1");
        harm("in sum", "b0,60;b2,60;b0,60;w5;w3;w5;w6;s0,9;", "0");
        harm("a joke is nothing to chalk", "b0,60;b3,60;w1;w1;w20;s0,9;", "2");
        harm("marble hears half, cut", "b0,60;b1,60;w1;w1;w2;s0,9;", "1");
        harm("marble hears latin twice", "b0,60;b1,60;w2;w7;s0,9;", "1");
        harm("slate hears a sigh three times", "b0,60;b2,60;w5;w2;s0,9;", "0");
        told("what it would be worth now", "laid b0,60;b0,60;b0,60;b0,60;w5;w4;s0,9;", "harm 0 = 1 | say 0 3 0 | say 0 3 0 | heard 1 0 = 2 | heard 2 0 = 2 | heard 0 0 = 0 | harm 0 = 0");
        told("heard more often than it is worth: nothing, not less", "laid b0,60;b1,60;w9;w1;w1;s0,9;s1,9;", "say 0 1 2 = 0 | heard 1 2 = 1 | harm 0 = 11");
        told("0 at least", "laid b0,60;b1,60;w9;w2;w1;s0,9;", "say 0 1 2 | say 0 1 2 | say 0 1 2 | heard 1 2 = 3 | worth 0 0 2 = 0 | say 0 1 1 | harm 0 = 1");
    }

    private static void harmHeard() {
        harm("by one two places away", "b0,60;b3,60;b2,60;w9;w9;w5;s0,9;", "2");
        harm("by one two places away, more", "b0,60;b3,60;b2,60;w9;w9;w19;s0,9;", "0");
        harm("not by one three places away", "b0,60;b3,60;b3,60;b2,60;w5;w5;w20;s0,9;", "2");
        told("nor to the left", "laid b2,60;b3,60;b3,60;b0,60;b2,60;b2,60;w5;w5;w20;s0,9;f0;", "harm 3 = 0 | harm 2 = 0 | harm 5 = 0", "laid b2,60;b3,60;b3,60;b0,60;w5;w5;w20;s0,9;", "harm 3 = 2");
        String gap = "laid b0,60;b0,5;b0,60;w5;w9;s0,9;p0,1,1;";
        told("not by one that is out, nor through it", gap, "harm 0 = 0 | say 0 1 0 | heard 0 0 = 1 | harm 0 = 1 | harm 2 = 1");
        told("not by one that is placed, nor through it", gap, "say 0 1 0 | take 1 1 = 1 | harm 0 = 1 | harm 2 = 1");
        told("not by one that is cracked, nor through it", gap, "say 0 1 0 | take 1 2 = 0 | harm 0 = 1 | harm 2 = 1");
        told("by others, not by itself", "laid b0,60;w5;w9;s0,9;", "harm 0 = 1 | say 0 0 1 | say 0 0 1 | say 0 0 1 | say 0 0 1 | say 0 0 1 | worth 0 0 1 = 4 | harm 0 = 0");
        told("on both sides", "laid b0,60;b3,60;b0,60;b3,60;b0,60;w9;w9;w20;s0,9;", "harm 2 = 0 | harm 1 = 0 | harm 0 = 0");
    }

    private static void harmMost() {
        harm("worth to them by a mason, whoever says it", "b0,60;b0,60;w5;s0,9;s1,9;", "10");
        harm("of several the one worth most", "b0,60;b0,60;w5;w5;s0,9;s1,9;s1,9;", "10");
        harm("of several the lower speaker, then the lower word", "b0,60;b0,60;w6;w5;w5;s0,9;s0,9;", "1");
        harm("less harm ahead of more worth", "b0,60;b0,60;w4;w5;s0,9;s1,9;", "10");
        harm("less harm ahead of the lower speaker", "b0,60;b0,60;w5;w5;w4;s0,1;s0,9;", "2");
        told("by one who has an hour left", "laid b0,60;b0,60;b0,60;b0,60;b0,60;w5;w4;s1,1;s0,1;", "harm 0 = 1 | say 0 4 0 | harm 0 = 11 | say 1 4 0 | harm 0 = NONE");
    }

    private static void harmNone() {
        harm("what is worth nothing is not said", "b1,60;b0,60;w5;w1;s0,9;", "0");
        told("none is worth anything", "laid b0,60;w1;s0,9;", "harm 0 = 0 | say 0 0 0 | harm 0 = NONE | speaker 0 2 = 8");
        told("no hour left", "laid b0,60;w9;s0,1;", "say 0 0 0 | harm 0 = NONE | pass 1 | harm 0 = 0");
        told("not in the bed", "laid b0,5;b0,5;b0,60;w9;s0,9;p0,0,1;", "say 0 0 0 | harm 0 = NO | take 0 2 = 0 | harm 0 = NO | say 0 1 0 | take 1 0 = 1 | harm 1 = NO");
        told("the bed is ahead of none", "laid b0,5;w9;s0,1;", "say 0 0 0 | harm 0 = NO");
        told("no block", "laid b0,5;w9;s0,1;", "say 0 0 0 | harm 1 = BAD | harm -1 = BAD | harm MIN = BAD | harm MAX = BAD");
    }
}
