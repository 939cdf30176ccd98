/** Counts the answers that are not as due, and ends a test. */
final class Check {
    private final String test;
    private int asked;
    private int wrong;

    Check(String test) {
        this.test = test;
    }

    void due(String call, long got, long want) {
        asked++;
        if (got == want) return;
        wrong++;
        System.out.println(test + ": " + call + " answered " + got + ", due is " + want);
    }

    void dueRow(String call, int[] got, int... want) {
        due(call + ": how many", got.length, want.length);
        for (int i = 0; i < got.length && i < want.length; i++) due(call + " [" + i + "]", got[i], want[i]);
    }

    void end() {
        System.out.println(test + ": " + asked + " answers, " + wrong + " not as due");
        if (wrong != 0 || asked == 0) System.exit(1);
    }

    static void type(StoneApologies x, String text) {
        for (int i = 0; i < text.length(); i++) x.write(text.charAt(i));
    }

    /** A new object with this text laid. */
    static StoneApologies laid(String text) {
        StoneApologies x = new StoneApologies();
        type(x, text);
        if (x.lay() < 1) throw new IllegalArgumentException("not laid: " + text);
        return x;
    }

    /** All that can be seen of an object by calls that ask for one number of it. */
    static int[] sight(StoneApologies x) {
        int blocks = x.count(0), words = x.count(1), speakers = x.count(2);
        java.util.List<Integer> all = new java.util.ArrayList<>();
        for (int i = 0; i < 12; i++) all.add(x.count(i));
        for (int b = 0; b < blocks; b++) {
            for (int what = 0; what < 5; what++) all.add(x.block(b, what));
            for (int w = 0; w < words; w++) all.add(x.heard(b, w));
            for (int s = 0; s < speakers; s++) all.add(x.promised(s, b));
        }
        for (int w = 0; w < words; w++) all.add(x.word(w));
        for (int s = 0; s < speakers; s++) {
            for (int what = 0; what < 3; what++) all.add(x.speaker(s, what));
        }
        int[] row = new int[all.size()];
        for (int i = 0; i < row.length; i++) row[i] = all.get(i);
        return row;
    }

    static boolean same(int[] a, int[] b) {
        return java.util.Arrays.equals(a, b);
    }
}
