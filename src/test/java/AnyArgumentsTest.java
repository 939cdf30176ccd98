/** Promises 1 to 30, wrong inputs: whatever the numbers are, a call answers, and one that is BAD changes nothing. */
public final class AnyArgumentsTest {
    private static final int[] ANY = {Integer.MIN_VALUE, -1000, -5, -2, -1, 0, 1, 2, 3, 4, 5, 6, 7, 8, 9, 11, 12, 20, 21,
        60, 61, 99, 100, 126, 127, 9999, 10000, 1 << 16, 1 << 30, Integer.MAX_VALUE};
    private static final String[] TEXTS = {"b0,1;w1;s0,1;f0;", "b0,60;b1,60;b2,60;b3,60;b0,60;b1,60;w20;w20;w20;w20;w20;w20;"
        + "s1,9;s1,9;s2,9;s3,9;f9;", "b2,5;b3,9;b1,7;w1;w2;w3;s2,9;s3,1;f1;p0,0,3;p1,0,4;p0,1,3;p1,2,7;"};
    private static final Check check = new Check("AnyArgumentsTest");
    private long seed = 99;

    public static void main(String[] args) {
        new AnyArgumentsTest().run();
        check.end();
    }

    private int any() {
        seed = seed * 6364136223846793005L + 1442695040888963407L;
        return ANY[(int) ((seed >>> 33) % ANY.length)];
    }

    private int few() {
        int n = any();
        return (n & 7) < 6 ? n & 3 : n;
    }

    /** An object is used for 512 calls at most: some steps are looked at, the others just taken. */
    private void run() {
        for (int i = 0; i < 1600; i++) {
            StoneApologies x = i % 4 == 3 ? new StoneApologies() : Check.laid(TEXTS[i % 4]);
            int look = 3 + Check.sight(x).length;
            int left = 512 - look - (i % 4 == 3 ? 0 : TEXTS[i % 4].length() + 1);
            for (int n = 0; left > 2 * look + 2; n++) {
                boolean looked = n % 5 == i % 5;
                left -= looked ? 2 * look + 2 : 2;
                step(x, (i * 7 + n * 11) % 29, looked);
            }
        }
    }

    private void step(StoneApologies x, int call, boolean looked) {
        int[] ahead = looked ? Check.sight(x) : null;
        int answer;
        try {
            answer = call(x, call);
        } catch (RuntimeException e) {
            check.due("call " + call + " has thrown " + e, 1, 0);
            return;
        }
        check.due("call " + call + " answers what is told: " + answer, answer >= -4 ? 1 : 0, 1);
        if (!looked) return;
        boolean refused = answer == -1 || answer == -2 || answer == -3;
        boolean asked = call > 16;
        if (!refused && !asked) return;
        check.due("nothing changes by call " + call + ", answer " + answer, Check.same(ahead, Check.sight(x)) ? 1 : 0, 1);
    }

    private int call(StoneApologies x, int call) {
        switch (call) {
            case 0: return x.write(any());
            case 1: return x.wipe();
            case 2: return x.lay();
            case 3: case 4: case 5: return x.say(few(), few(), few());
            case 6: case 7: case 8: return x.promise(few(), few(), few());
            case 9: case 10: case 11: return x.take(few(), few());
            case 12: case 13: return x.pass(few());
            case 14: return x.undo();
            case 15: return x.keep();
            case 16: return x.back();
            case 17: return x.fault() + x.liars() * 0;
            case 18: return x.block(few(), few());
            case 19: return Math.min(x.word(few()), x.speaker(few(), few()));
            case 20: return Math.min(x.heard(few(), few()), x.promised(few(), few()));
            case 21: return Math.min(x.worth(few(), few(), few()), x.best(few()));
            case 22: return x.least(few(), few());
            case 23: return x.order(few());
            case 24: return Math.min(x.days(few(), few()), x.frost(few()));
            case 25: return Math.min(x.uses(few()), x.harm(few()));
            case 26: return Math.min(x.said(few(), few(), few()), x.count(few()));
            case 27: return x.deaf(few(), few(), few(), few(), few(), few());
            default: return x.year(few(), few(), few());
        }
    }
}
