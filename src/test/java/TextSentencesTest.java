/** "What it is" and promises 1 to 5, sentence by sentence: THE TEXT, its bounds and its first fault. */
public final class TextSentencesTest {
    private static final int NO = -2, NONE = -4;
    private static final String HEAD = "b0,9;b0,9;b0,9;w5;s0,9;s0,9;";
    private static final Check check = new Check("TextSentencesTest");

    public static void main(String[] args) {
        letters();
        fullTexts();
        items();
        figures();
        marks();
        everyNumber();
        asManyAsThereCanBe();
        toldAhead();
        theLastOneCounts();
        theFirstFault();
        asAtFirst();
        whatIsLaid();
        notLaid();
        laidAnew();
        wiped();
        check.end();
    }

    private static void told(String sentence, String... rows) {
        Script.told(check, sentence, rows);
    }

    private static void fault(String sentence, String text, int place) {
        Script script = new Script(check, sentence + " '" + text + "'");
        script.run("type " + text);
        script.run("fault = " + place);
        if (place != NONE) script.run("lay = NO | count 0 = 6 | count 11 = " + text.length());
    }

    private static String times(int n, String text) {
        StringBuilder all = new StringBuilder();
        for (int i = 0; i < n; i++) all.append(text);
        return all.toString();
    }

    private static void letters() {
        for (int letter = 32; letter <= 126; letter++) {
            told("a letter is 32 to 126", "write " + letter + " = 1", "count 11 = 1", "wipe = 1");
        }
        told("31 is too small", "write 31 = BAD", "count 11 = 0");
        told("127 is too large", "write 127 = BAD", "count 11 = 0");
        told("0, -1 and what is far off are none", "write 0 = BAD | write -1 = BAD | write MIN = BAD | write MAX = BAD");
        told("what would be one if cut to a byte or a char is none", "write 354 = BAD | write 65634 = BAD | write -158 = BAD");
        told("how long it is", "write 98 = 1 | write 98 = 2 | write 31 = BAD | write 98 = 3");
    }

    private static void fullTexts() {
        String whole = times(6, "b0,20;") + times(6, "w20;") + times(4, "s0,9;");
        String full = whole + times(35, "f1;") + times(2, "f01;") + "p3,5,7;";
        check.due("it has 200 letters", full.length(), 200);
        told("200 letters", "type " + full, "count 11 = 200 | fault = NONE | lay = 6 | promised 3 5 = 7");
        told("200 at most", "type " + full, "write 59 = FULL | count 11 = 200 | fault = NONE | lay = 6 | wipe = 200");
        told("BAD is ahead of FULL", "type " + full, "write 31 = BAD | write 127 = BAD | count 11 = 200");
        told("199 letters", "type " + full.substring(0, 199), "count 11 = 199 | fault = 193 | write 59 = 200 | fault = NONE");
        told("the last letter is not lost", "type " + full.substring(0, 199), "write 58 = 200 | write 59 = FULL | fault = 193");
        told("room again behind wipe", "type " + full, "wipe = 200 | write 98 = 1 | fault = 0");
        fault("an item that is cut off by the end", whole + times(40, "f1;").substring(0, 119) + "1", 197);
    }

    private static void items() {
        for (int letter = 32; letter <= 126; letter++) {
            int numbers = letter == 'w' || letter == 'f' ? 1 : letter == 'b' || letter == 's' ? 2 : letter == 'p' ? 3 : 0;
            for (int many = 1; many <= 4; many++) {
                String item = (char) letter + "1" + times(many - 1, ",1") + ";";
                fault("an item's letter and how many numbers", HEAD + item, many == numbers ? NONE : HEAD.length());
            }
        }
        for (String letter : new String[] {"b", "w", "s", "f", "p"}) {
            fault("an item without a number", HEAD + letter + ";", HEAD.length());
            fault("an item of a letter alone", HEAD + letter, HEAD.length());
            fault("two letters", HEAD + letter + letter + "1,1;", HEAD.length());
        }
        fault("a number alone", HEAD + "1;", HEAD.length());
        fault("a ; alone", HEAD + ";", HEAD.length());
    }

    private static void figures() {
        fault("two figures", "b01,09;w05;s01,09;f00;p00,00,07;", NONE);
        String[] threes = {"b000,9;", "b0,009;", "w005;", "s001,9;", "s0,009;", "f001;", "p000,0,0;", "p0,000,0;", "p0,0,000;",
            "w100;", "f100;", "b0,100;"};
        for (String item : threes) fault("three figures are too many", HEAD + item, HEAD.length());
        String[] nones = {"b,9;", "b0,;", "w;", "s,9;", "s0,;", "f;", "p,0,0;", "p0,,0;", "p0,0,;"};
        for (String item : nones) fault("no figure is too few", HEAD + item, HEAD.length());
        for (String sign : new String[] {"/", ":", "-", "+", " ", "a", "."}) {
            for (String place : PLACES) {
                fault("a sign that is no figure", HEAD + place.replace("#", sign), HEAD.length());
                for (String figure : new String[] {"0", "1", "2", "3", "7"}) {
                    fault("a sign ahead of a figure", HEAD + place.replace("#", sign + figure), HEAD.length());
                    fault("a sign behind a figure", HEAD + place.replace("#", figure + sign), HEAD.length());
                }
            }
        }
    }

    private static void marks() {
        String[] items = {"b0,9;", "w5;", "s0,9;", "f1;", "p0,0,0;"};
        for (String item : items) {
            for (int i = 1; i < item.length(); i++) {
                fault("cut off", HEAD + item.substring(0, i), HEAD.length());
                if (item.charAt(i) != ',' && item.charAt(i) != ';') continue;
                for (String mark : new String[] {".", ":", " ", "<", "+", "-", ",,", ";;", ", ", " ,"}) {
                    String text = item.substring(0, i) + mark + item.substring(i + 1);
                    boolean extra = mark.equals(";;") && i == item.length() - 1;
                    fault("another mark", HEAD + text, extra ? HEAD.length() + item.length() : HEAD.length());
                }
            }
            String comma = item.substring(0, item.length() - 1) + ",";
            fault("a , behind the last number", HEAD + comma, HEAD.length());
            fault("a , and a ; behind the last number", HEAD + comma + ";", HEAD.length());
        }
    }

    /** Each number of each item: where it stands, the lowest and the highest that are told. */
    private static final String[] PLACES = {"b#,9;", "b0,#;", "w#;", "s#,9;", "s0,#;", "f#;", "p#,0,0;", "p0,#,0;", "p0,0,#;"};
    private static final int[] LOWEST = {0, 1, 1, 0, 1, 0, 0, 0, 0};
    private static final int[] HIGHEST = {3, 60, 20, 3, 9, 9, 1, 2, 7};
    private static final String[] SEEN = {"block 3 0", "block 3 1", "word 1", "speaker 2 0", "speaker 2 1", "", "", "", "promised 0 0"};

    private static void everyNumber() {
        for (int i = 0; i < PLACES.length; i++) {
            for (int n = 0; n <= 99; n++) {
                boolean so = n >= LOWEST[i] && n <= HIGHEST[i];
                everyNumber(i, n, String.valueOf(n), so);
                if (n < 10) everyNumber(i, n, "0" + n, so);
            }
        }
    }

    private static void everyNumber(int i, int n, String figures, boolean so) {
        String text = HEAD + PLACES[i].replace("#", figures);
        fault("a number from " + LOWEST[i] + " to " + HIGHEST[i], text, so ? NONE : HEAD.length());
        if (so && SEEN[i].length() > 0) told("as told " + text, "laid " + text, SEEN[i] + " = " + n);
    }

    private static void asManyAsThereCanBe() {
        fault("6 blocks", times(6, "b0,9;"), NONE);
        fault("a 7th block", times(7, "b0,9;"), 30);
        fault("a 7th block behind others", times(6, "b0,9;") + "w5;s0,9;f1;p0,5,0;b0,9;w0;", 48);
        fault("6 words", times(6, "w5;"), NONE);
        fault("a 7th word", times(7, "w5;"), 18);
        fault("a 7th word behind others", times(6, "w5;") + "b0,9;s0,9;w5;x", 28);
        fault("4 speakers", times(4, "s0,9;"), NONE);
        fault("a 5th speaker", times(5, "s0,9;"), 20);
        fault("a 5th speaker behind others", times(4, "s0,9;") + "b0,9;w5;p3,0,7;s0,9;b", 35);
        told("6, 6 and 4", "laid " + times(6, "b0,9;") + times(6, "w5;") + times(4, "s0,9;"),
            "count 0 = 6 | count 1 = 6 | count 2 = 4 | block 5 1 = 9 | block 6 1 = BAD | word 5 = 5 | word 6 = BAD",
            "speaker 3 1 = 9 | speaker 4 1 = BAD");
        told("frost and promises as many as there is room for", "laid b0,9;w5;s0,9;" + times(50, "f7;") + times(5, "p0,0,6;"),
            "fault = NONE | promised 0 0 = 6 | pass 1 = 1 | block 0 2 = 7");
        told("from the left", "laid b0,9;b1,8;b2,7;b3,6;w4;s0,9;w3;s1,8;",
            "block 0 0 = 0 | block 1 0 = 1 | block 2 0 = 2 | block 3 0 = 3 | block 0 1 = 9 | block 3 1 = 6 | word 0 = 4",
            "word 1 = 3 | speaker 0 1 = 9 | speaker 1 1 = 8");
    }

    private static void toldAhead() {
        fault("a promise of none", "p0,0,0;b0,9;w5;s0,9;", 0);
        fault("a promise ahead of the speaker", "b0,9;p0,0,0;w5;s0,9;", 5);
        fault("a promise ahead of the block", "s0,9;p0,0,0;b0,9;w5;", 5);
        fault("a promise behind both", "s0,9;b0,9;p0,0,0;w5;", NONE);
        fault("a promise ahead of the second speaker", "b0,9;s0,9;p1,0,0;s0,9;", 10);
        fault("a promise ahead of the second block", "b0,9;s0,9;p0,1,0;b0,9;", 10);
        fault("a promise behind the second of both", "b0,9;s0,9;b0,9;s0,9;p1,1,0;", NONE);
        fault("a promise of a speaker who can not be", HEAD + "p4,0,0;", 28);
        fault("a promise to a block that can not be", HEAD + "p0,6,0;", 28);
    }

    private static void theLastOneCounts() {
        told("frost: 1 without", "laid b0,60;b2,60;w5;s0,9;", "pass 1 = 1 | block 0 2 = 1 | block 1 2 = 2");
        told("frost: the last one", "laid f9;b0,60;w5;f0;s0,9;f3;", "pass 1 = 1 | block 0 2 = 3");
        told("frost: the last one, none", "laid f9;b0,60;w5;s0,9;f0;", "pass 1 = 1 | block 0 2 = 0");
        told("frost of an earlier text is gone", "laid b0,60;w5;s0,9;f9;", "laid b0,60;w5;s0,9;", "pass 1 = 1 | block 0 2 = 1");
        told("a promise: the last of both", "laid b0,60;b0,60;w5;s0,9;s0,9;p0,0,1;p1,0,2;p0,1,3;p0,0,7;p0,0,0;",
            "promised 0 0 = 0 | promised 1 0 = 2 | promised 0 1 = 3 | promised 1 1 = NONE | uses 0 = 0 | uses 1 = 8");
        told("a promise of an earlier text is gone", "laid b0,60;w5;s0,9;p0,0,1;", "laid b0,60;w5;s0,9;", "promised 0 0 = NONE");
    }

    private static void theFirstFault() {
        fault("none in the empty text", "", NONE);
        fault("the first of two", "b0,9;w0;s0,9;w0;", 5);
        fault("the first letter of it, not the letter that is wrong", "b0,9;s0,99;", 5);
        fault("the first item", "b0,61;", 0);
        fault("the last item", HEAD + "w21;", 28);
        fault("a blank between items", "b0,9; w5;", 5);
        fault("a blank at the end", "b0,9; ", 5);
        fault("a blank alone", " ", 0);
        fault("no fault without a word or a speaker", "b0,9;", NONE);
        told("not only at the first call", "type b0,9;w0;", "fault = 5 | fault = 5 | write 59 = 9 | fault = 5 | wipe = 9 | fault = NONE");
    }

    private static void asAtFirst() {
        told("an empty text, nothing gone by, undone, kept", "count 11 = 0 | count 3 = 0 | count 9 = 0 | count 10 = 0 | undo = NO | back = NO");
        told("the text is empty though it is laid", "wipe = 0 | fault = NONE | lay = NO | write 98 = 1");
        told("blocks", "block 0 0 = 0 | block 1 0 = 1 | block 2 0 = 2 | block 3 0 = 3 | block 4 0 = 0 | block 5 0 = 1 | block 6 0 = BAD",
            "block 0 1 = 20 | block 1 1 = 14 | block 2 1 = 9 | block 3 1 = 6 | block 4 1 = 30 | block 5 1 = 25");
        told("words", "word 0 = 6 | word 1 = 4 | word 2 = 5 | word 3 = 9 | word 4 = 2 | word 5 = BAD");
        told("speakers", "speaker 0 0 = 0 | speaker 1 0 = 1 | speaker 2 0 = 2 | speaker 3 0 = 3 | speaker 4 0 = BAD",
            "speaker 0 1 = 4 | speaker 1 1 = 6 | speaker 2 1 = 2 | speaker 3 1 = 3 | count 8 = 15");
        told("frost", "pass 1 = 1 | block 0 2 = 2 | block 2 2 = 4");
        told("promises", "promised 0 0 = 3 | promised 1 0 = 5 | promised 1 2 = 1 | promised 0 2 = NONE | promised 2 0 = NONE | promised 3 5 = NONE");
        Script one = new Script(check, "one object is as another");
        one.run("say 0 0 0 | pass 3 | write 98");
        told("another one is not touched", "count 3 = 0 | block 0 2 = 0 | count 11 = 0 | undo = NO");
    }

    private static void whatIsLaid() {
        told("how many blocks: 1", "laid b0,9;w5;s0,9;", "lay = 1 | count 0 = 1 | count 1 = 1 | count 2 = 1 | count 11 = 13");
        told("how many blocks: 6", "laid b0,9;b0,9;b0,9;b0,9;b0,9;b0,9;w5;s0,9;", "lay = 6");
        told("in any order", "laid s0,9;w5;b0,9;", "count 0 = 1 | count 1 = 1 | count 2 = 1");
        told("all in the bed, 0 soft, no word heard", "laid b0,1;b3,60;w1;s0,1;",
            "block 0 2 = 0 | block 0 3 = 0 | block 0 4 = NONE | block 1 2 = 0 | block 1 3 = 0 | block 1 4 = NONE",
            "heard 0 0 = 0 | heard 1 0 = 0 | count 4 = 2 | count 5 = 0 | count 6 = 0 | count 7 = 0 | speaker 0 2 = 1");
        told("the text stays", "laid b0,9;w5;s0,9;", "count 11 = 13 | fault = NONE | wipe = 13 | count 0 = 1");
    }

    private static void notLaid() {
        String[] lacking = {"", "f1;", "b0,9;", "w5;", "s0,9;", "b0,9;w5;", "b0,9;s0,9;", "w5;s0,9;", "b0,9;s0,9;p0,0,1;f2;"};
        for (String text : lacking) {
            told("without a block, a word or a speaker '" + text + "'", "say 0 0 0 | keep", "type " + text,
                "lay = NO | count 0 = 6 | block 0 2 = 6 | count 9 = 1 | count 10 = 1 | count 11 = " + text.length(), "undo = 0 | back = 0");
        }
        told("with a fault behind a whole text", "say 0 0 0 | keep", "type b0,9;w5;s0,9;x",
            "lay = NO | count 0 = 6 | count 1 = 5 | count 2 = 4 | word 0 = 6 | count 3 = 0 | count 9 = 1 | count 10 = 1 | count 11 = 14");
        told("neither whole nor without a fault", "type b0,9;w0;", "lay = NO | fault = 5");
        told("fault tells nothing to the quarry", "type b3,60;w20;s3,1;f9;p0,0,7;",
            "fault = NONE | count 0 = 6 | block 0 1 = 20 | word 0 = 6 | promised 0 0 = 3 | pass 1 = 1 | block 0 2 = 2");
        told("a lay that is NO lays nothing of it", "type b3,60;w20;f9;",
            "lay = NO | count 0 = 6 | block 0 1 = 20 | word 0 = 6 | worth 0 0 0 = 6 | worth 0 1 0 = 12 | pass 1 = 1 | block 0 2 = 2");
    }

    private static void laidAnew() {
        String text = "b0,9;b0,9;w5;w5;s0,9;s0,9;p0,0,1;";
        told("day 0, nothing undone, kept", "laid " + text, "say 0 0 0 | pass 2 = 2 | keep = 1 | pass 3 = 5 | keep = 2",
            "lay = 2 | count 3 = 0 | count 9 = 0 | count 10 = 0 | undo = NO | back = NO | keep = 1");
        told("hours, softness, what was heard, promises, what was taken", "laid " + text,
            "say 0 0 1 | say 0 0 0 | promise 0 1 4 | promise 1 1 4 | take 0 3 = 0 | say 1 1 1 | lay = 2",
            "block 0 2 = 0 | block 0 3 = 0 | block 0 4 = NONE | block 1 2 = 0 | heard 0 0 = 0 | heard 0 1 = 0 | heard 1 1 = 0",
            "promised 0 0 = 1 | promised 0 1 = NONE | promised 1 1 = NONE | speaker 0 2 = 9 | speaker 1 2 = 9 | count 7 = 0");
        told("of another size", "laid " + text, "laid b3,6;w7;s1,2;",
            "count 0 = 1 | count 1 = 1 | count 2 = 1 | block 1 0 = BAD | word 1 = BAD | speaker 1 0 = BAD | heard 0 1 = BAD",
            "promised 0 0 = NONE | worth 0 0 0 = 14");
        told("text that is written is laid by lay alone", "laid b0,9;w5;s0,9;", "type b0,7;", "count 0 = 1 | block 1 0 = BAD | lay = 2 | block 1 1 = 7");
        check.due("NO", StoneApologies.NO, NO);
    }

    private static void wiped() {
        told("how long it was", "wipe = 0", "type b0", "wipe = 2 | wipe = 0 | count 11 = 0");
        told("the quarry stays", "laid b0,9;w5;s0,9;", "say 0 0 0 = 5 | keep = 1 | wipe = 13 | count 0 = 1 | block 0 2 = 5 | count 9 = 1 | count 10 = 1");
        told("what was written is gone", "type b0,9;w5;s0,9;", "wipe = 13", "type b0,9;", "lay = NO | fault = NONE", "type x", "fault = 5");
        told("what was written does not end an item", "type b0,9;", "wipe = 5", "type b0,9", "fault = 0");
    }
}
