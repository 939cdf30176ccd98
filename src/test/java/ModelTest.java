/** Promises 1 to 30: many runs of calls, each answer compared with that of the plain model. */
public final class ModelTest {
    private static final Check check = new Check("ModelTest");
    private static final int CALLS = 512;
    private static final String LETTERS = "bwsfp0123456789,;x ";
    private long seed;
    private int left;
    private StoneApologies x;
    private Model m;

    private ModelTest(int run) {
        seed = run * 2654435761L + 12345;
    }

    public static void main(String[] args) {
        for (int run = 0; run < 300; run++) new ModelTest(run).run(run);
        oneLetterOff("b0,20;w4;s1,6;f2;p0,0,3;");
        oneLetterOff("b3,1;b1,60;w20;w1;s3,9;s0,1;p1,1,7;");
        check.end();
    }

    /** FAULT of all texts that are this one with one letter changed, put in or left out. */
    private static void oneLetterOff(String text) {
        for (int i = 0; i <= text.length(); i++) {
            String head = text.substring(0, i);
            compareFault(head);
            if (i < text.length()) compareFault(head + text.substring(i + 1));
            for (char letter = 32; letter <= 126; letter++) {
                compareFault(head + letter + text.substring(i));
                if (i < text.length()) compareFault(head + letter + text.substring(i + 1));
            }
        }
    }

    private static void compareFault(String text) {
        StoneApologies x = new StoneApologies();
        Model m = new Model();
        Check.type(x, text);
        for (int i = 0; i < text.length(); i++) m.write(text.charAt(i));
        check.due("fault() of " + text, x.fault(), m.fault());
        check.due("lay() of " + text, x.lay(), m.lay());
    }

    /** A number from 0 to below n, by the seed alone. */
    private int draw(int n) {
        seed = seed * 6364136223846793005L + 1442695040888963407L;
        return (int) ((seed >>> 33) % n);
    }

    /** A number from 0 to n - 1, at times one just beside. */
    private int near(int n) {
        int chance = draw(40);
        if (chance == 0) return -1;
        if (chance == 1) return n;
        return n < 1 ? 0 : draw(n);
    }

    private void run(int run) {
        x = new StoneApologies();
        m = new Model();
        left = CALLS;
        if (run % 5 != 0) tell();
        while (left > 0) {
            int chance = draw(100);
            if (chance == 0 && left > 250) tell();
            else if (chance < 52) act();
            else ask(draw(22));
        }
    }

    private void due(String call, int got, int want) {
        left--;
        check.due(call, got, want);
    }

    private void tell() {
        due("wipe()", x.wipe(), m.wipe());
        String text = text();
        if (draw(4) == 0) {
            int place = draw(text.length());
            text = text.substring(0, place) + LETTERS.charAt(draw(LETTERS.length())) + text.substring(place + draw(2));
        }
        for (int i = 0; i < text.length(); i++) due("write", x.write(text.charAt(i)), m.write(text.charAt(i)));
        due("fault() of " + text, x.fault(), m.fault());
        due("lay() of " + text, x.lay(), m.lay());
    }

    private String text() {
        StringBuilder text = new StringBuilder();
        int blocks = 1 + draw(6), words = 1 + draw(6), speakers = 1 + draw(4);
        int need = draw(3) == 0 ? 60 : 1 + draw(30), worth = draw(3) == 0 ? 20 : 1 + draw(9), hours = 1 + draw(9);
        for (int i = 0; i < blocks; i++) text.append("b").append(draw(4)).append(',').append(1 + draw(need)).append(';');
        for (int i = 0; i < words; i++) text.append("w").append(1 + draw(worth)).append(';');
        for (int i = 0; i < speakers; i++) text.append("s").append(draw(4)).append(',').append(1 + draw(hours)).append(';');
        if (draw(3) != 0) text.append("f").append(draw(10)).append(';');
        int promises = draw(9);
        for (int i = 0; i < promises; i++) {
            text.append("p").append(draw(speakers)).append(',').append(draw(blocks)).append(',').append(draw(3)).append(';');
        }
        return text.toString();
    }

    private void act() {
        int b = near(m.count(0)), w = near(m.count(1)), s = near(m.count(2)), u = draw(3) == 0 ? near(8) : draw(3);
        int chance = draw(20);
        if (chance < 8) due("say", x.say(s, b, w), m.say(s, b, w));
        else if (chance < 11) due("promise", x.promise(s, b, u), m.promise(s, b, u));
        else if (chance < 14) due("take", x.take(b, u), m.take(b, u));
        else if (chance < 16) {
            int n = draw(4) == 0 ? draw(23) - 1 : draw(2) + 1;
            due("pass", x.pass(n), m.pass(n));
        } else if (chance < 18) due("undo", x.undo(), m.undo());
        else if (chance == 18) due("keep", x.keep(), m.keep());
        else due("back", x.back(), m.back());
    }

    private void ask(int call) {
        int b = near(m.count(0)), w = near(m.count(1)), s = near(m.count(2)), what = draw(2);
        switch (call) {
            case 0: due("block", x.block(b, what + 2), m.block(b, what + 2)); break;
            case 1: due("word", x.word(w), m.word(w)); break;
            case 2: due("speaker", x.speaker(s, what + 1), m.speaker(s, what + 1)); break;
            case 3: due("heard", x.heard(b, w), m.heard(b, w)); break;
            case 4: due("promised", x.promised(s, b), m.promised(s, b)); break;
            case 5: due("worth", x.worth(s, b, w), m.worth(s, b, w)); break;
            case 6: case 7: {
                int k = draw(6) - 1 - draw(2);
                due("least", x.least(b, k), m.least(b, k));
                break;
            }
            case 8: due("best", x.best(b), m.best(b)); break;
            case 9: if (draw(4) == 0 && left > 8) order(); break;
            case 10: case 11: due("days", x.days(b, s), m.days(b, s)); break;
            case 12: due("frost", x.frost(b), m.frost(b)); break;
            case 13: due("uses", x.uses(b), m.uses(b)); break;
            case 14: case 15: due("harm", x.harm(b), m.harm(b)); break;
            case 16: due("liars", x.liars(), m.liars()); break;
            case 17: {
                int v = draw(4) == 0 ? near(100) : draw(12);
                due("said", x.said(b, v, what), m.said(b, v, what));
                break;
            }
            case 18: case 19: {
                int n = near(9), not = near(11);
                due("deaf", x.deaf(s, b, w, n, not, what), m.deaf(s, b, w, n, not, what));
                break;
            }
            case 20: {
                int z = near(10000), n = 1 + near(60);
                due("year", x.year(z, n, what), m.year(z, n, what));
                break;
            }
            default: {
                int k = draw(14) - 1;
                due("count", x.count(k), m.count(k));
            }
        }
    }

    private void order() {
        int blocks = m.count(4);
        for (int k = -2; k <= blocks; k++) due("order", x.order(k), m.order(k));
    }
}
