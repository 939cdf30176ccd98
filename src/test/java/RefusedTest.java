import java.util.List;

/** BAD, NO, NONE, FULL: "of several the first in this order, whatever the order at a call; nothing changes then". */
public final class RefusedTest {
    private static final Check check = new Check("RefusedTest");

    /** One cracked, one placed, one in the bed, one out; speaker 0 without an hour; 8 can be undone, 2 are kept. */
    private static final String[] MUCH = {"laid b0,9;b1,5;b0,60;b0,7;w6;s0,3;s1,4;p0,0,3;p1,1,4;",
        "say 1 0 0 | say 1 1 0 | keep | take 0 5 | take 1 4 | promise 0 2 6 | keep | say 1 3 0 | say 0 2 0 | say 0 2 0 | say 0 2 0 | pass 1",
        "say 0 2 0 | say 0 2 0 | say 0 2 0"};
    private static final String[] NEW = {};
    private static final String[] NEW_WITH_A_FAULT = {"say 0 0 0 | pass 1 | keep", "wipe", "type b0,9;w5;s0,9;b0"};
    private static final String[] FULL_TEXT = {"say 0 0 0 | pass 1 | keep", "type " + hundred() + hundred()};

    private static final String[] BAD_ONES = {
        "write 31", "write 127", "write -1", "write MIN", "write MAX", "block -1 0", "block 6 0", "block 0 -1", "block 0 5", "block MIN MAX",
        "word -1", "word 6", "word MIN", "word MAX", "speaker -1 0", "speaker 4 0", "speaker 0 -1", "speaker 0 3", "speaker MAX MIN",
        "heard -1 0", "heard 6 0", "heard 0 -1", "heard 0 6", "heard MAX MAX", "promised -1 0", "promised 4 0", "promised 0 -1", "promised 0 6",
        "worth -1 0 0", "worth 4 0 0", "worth 0 -1 0", "worth 0 6 0", "worth 0 0 -1", "worth 0 0 6", "worth MIN MIN MIN",
        "say -1 0 0", "say 4 0 0", "say 0 -1 0", "say 0 6 0", "say 0 0 -1", "say 0 0 6", "say 1 2 6", "say 4 2 0", "say 1 6 0", "say MAX MAX MAX",
        "promise -1 2 0", "promise 4 2 0", "promise 0 -1 0", "promise 0 6 0", "promise 0 2 -1", "promise 0 2 8", "promise 0 2 MAX", "promise 0 2 MIN",
        "take -1 0", "take 6 0", "take 3 -1", "take 3 8", "take 3 MAX", "take 3 MIN", "pass 0", "pass -1", "pass 21", "pass MIN", "pass MAX",
        "least -1 0", "least 6 0", "least 2 -2", "least 2 MIN", "best -1", "best 6", "order -2", "order MIN", "days -1 0", "days 6 0", "days 2 -1", "days 2 4",
        "frost -1", "frost 6", "uses -1", "uses 6", "harm -1", "harm 6", "said -1 0 0", "said 6 0 0", "said 2 -1 0", "said 2 100 0", "said 2 0 -1", "said 2 0 2",
        "deaf -1 2 0 1 1 0", "deaf 4 2 0 1 1 0", "deaf 0 6 0 1 1 0", "deaf 0 2 6 1 1 0", "deaf 0 2 0 9 1 0", "deaf 0 2 0 -1 1 0", "deaf 0 2 0 1 11 0",
        "deaf 0 2 0 1 -1 0", "deaf 0 2 0 1 1 2", "deaf 0 2 0 1 1 -1", "year -1 1 0", "year 10000 1 0", "year 0 0 0", "year 0 61 0", "year 0 1 2", "year 0 1 -1",
        "count -1", "count 12", "count MIN", "count MAX"};

    /** Not as things stand in MUCH: 0 is cracked, 1 is placed, 2 is in the bed, 3 is out, speaker 0 has no hour. */
    private static final String[] NO_ONES = {
        "say 0 2 0", "say 1 0 0", "say 1 1 0", "say 1 3 0", "say 0 0 0", "say 0 1 0", "say 0 3 0", "promise 0 0 3", "promise 1 1 4", "promise 0 3 0", "promise 1 3 7",
        "take 2 6", "take 2 0", "take 0 3", "take 0 5", "take 1 4", "take 1 7", "least 0 -1", "least 1 -1", "least 3 -1", "least 3 0", "least 3 9", "best 0", "best 1", "best 3",
        "days 0 0", "days 1 1", "days 3 0", "frost 0", "frost 1", "frost 3", "uses 0", "uses 1", "harm 0", "harm 1", "harm 3", "said 0 0 0", "said 1 0 1", "said 3 99 1",
        "deaf 0 0 0 1 1 0", "deaf 1 1 0 0 0 0", "deaf 1 3 0 8 10 1"};

    /** In MUCH, too: a number that is none that is told, of a call that would be NO without it. */
    private static final String[] BAD_AHEAD_OF_NO = {
        "say 0 2 1", "say 2 2 0", "say 0 4 0", "say 1 3 1", "say 2 0 0", "say 0 0 1", "promise 2 3 0", "promise 0 3 8", "promise 0 3 -1", "promise 0 0 8", "promise -1 1 4",
        "take 2 8", "take 2 -1", "take 0 8", "take 1 -1", "take 4 8", "least 3 -2", "least 0 MIN", "least 4 -2", "days 3 2", "days 0 -1", "days 4 0", "said 3 100 0", "said 3 -1 0",
        "said 3 0 2", "said 0 0 -1", "deaf 2 3 0 1 1 0", "deaf 0 3 1 1 1 0", "deaf 0 3 0 9 1 0", "deaf 0 3 0 -1 1 0", "deaf 0 3 0 1 11 0", "deaf 0 3 0 1 -1 0", "deaf 0 3 0 1 1 2",
        "deaf 0 0 0 9 11 2"};

    /** In MUCH, too: calls that ask; whatever they answer, nothing changes. */
    private static final String[] ASKED = {
        "fault", "block 2 2", "word 0", "speaker 1 2", "heard 2 0", "promised 0 2", "worth 1 2 0", "least 2 -1", "least 2 0", "least 2 5", "best 2", "order -1", "order 0", "order 6",
        "days 2 0", "days 2 1", "frost 2", "uses 2", "uses 3", "harm 2", "liars", "said 2 3 0", "said 2 3 1", "deaf 0 2 0 8 3 0", "deaf 1 2 0 8 3 1", "year 5 60 0", "year 9999 60 1",
        "count 4", "count 9", "count 10"};

    public static void main(String[] args) {
        inMuch();
        behindMuch();
        nothingYet();
        noRoom();
        ofSeveral();
        check.end();
    }

    private static String hundred() {
        return "f1;f2;f3;f4;f5;f6;f7;f8;f9;f10;f11;f12;f13;f14;f15;f16;f17;f18;f19;f20;f21;f22;f23;b0,20;b0,30;w7;w1";
    }

    /** The call answers so, and all that can be seen, undone and taken back is as without it. */
    private static void refused(String[] rows, String call, String answer) {
        for (int first = 0; first < 3; first++) {
            Script with = new Script(check, "refused");
            Script without = new Script(check, "refused");
            for (String row : rows) with.run(row);
            for (String row : rows) without.run(row);
            with.run(answer.isEmpty() ? call : call + " = " + answer);
            List<Integer> seen = with.depths(first);
            check.due("nothing changes by " + call + " (" + first + ") " + seen, seen.equals(without.depths(first)) ? 1 : 0, 1);
        }
    }

    private static void inMuch() {
        Script.told(check, "much", MUCH[0], MUCH[1], MUCH[2], "block 0 3 = 3 | block 1 3 = 2 | block 2 3 = 0 | block 3 3 = 1 | speaker 0 2 = 0 | speaker 1 2 = 4",
            "count 9 = 8 | count 10 = 2 | count 3 = 1");
        for (String call : NO_ONES) refused(MUCH, call, "NO");
        for (String call : BAD_AHEAD_OF_NO) refused(MUCH, call, "BAD");
        refused(MUCH, "keep", "FULL");
    }

    private static void behindMuch() {
        for (String call : BAD_ONES) refused(MUCH, call, "BAD");
        for (String call : BAD_ONES) refused(NEW, call, "BAD");
        for (String call : ASKED) refused(MUCH, call, "");
        for (String call : ASKED) refused(NEW, call, "");
    }

    private static void nothingYet() {
        refused(NEW, "undo", "NO");
        refused(NEW, "back", "NO");
        refused(NEW, "lay", "NO");
        refused(new String[] {"type b0,9;w5;"}, "lay", "NO");
        refused(new String[] {"say 0 0 0 | pass 1"}, "back", "NO");
        refused(new String[] {"keep | keep"}, "undo", "NO");
        refused(new String[] {"keep | pass 1 | keep | pass 1 | undo | undo"}, "undo", "NO");
        refused(NEW_WITH_A_FAULT, "lay", "NO");
        refused(NEW_WITH_A_FAULT, "fault", "13");
    }

    private static void noRoom() {
        check.due("two hundred letters", hundred().length() * 2, 200);
        refused(FULL_TEXT, "write 98", "FULL");
        refused(FULL_TEXT, "write 59", "FULL");
        refused(FULL_TEXT, "write 31", "BAD");
        refused(FULL_TEXT, "write 127", "BAD");
        refused(FULL_TEXT, "lay", "NO");
        refused(new String[] {"pass 1 | keep | pass 1 | keep | pass 1"}, "keep", "FULL");
    }

    /** Rows that could be refused for more than one reason, told side by side. */
    private static void ofSeveral() {
        String one = "laid b0,5;w5;s0,1;f0;";
        Script.told(check, "no hour, out, no word", one, "say 0 0 0 | say 0 0 0 = NO | say 0 0 1 = BAD | say 1 0 0 = BAD | say 0 1 0 = BAD");
        Script.told(check, "out, none", one, "say 0 0 0 | least 0 -1 = NO | least 0 0 = NO | best 0 = NO | harm 0 = NO | days 0 0 = NO | frost 0 = NO | said 0 9 1 = NO");
        Script.told(check, "in the bed, none", "laid b0,60;w5;s0,1;f0;", "say 0 0 0 | least 0 -1 = NONE | least 0 0 = NONE | best 0 = NONE | harm 0 = NONE | days 0 0 = NONE | frost 0 = NONE | said 0 9 1 = NONE | said 0 9 0 = 0");
        Script.told(check, "bad, none", one, "least 1 5 = BAD | least 0 5 = NONE | order -2 = BAD | order 5 = NONE | promised 1 0 = BAD | promised 0 0 = NONE | block 0 4 = NONE | block 1 4 = BAD");
        Script.told(check, "none in the bed", one, "say 0 0 0 | order -2 = BAD | order -1 = 0 | order 0 = NONE");
        Script.told(check, "neither whole nor without a fault", "type b0,9;w0;", "lay = NO | fault = 5");
    }
}
