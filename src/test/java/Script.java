/** Calls written as words, such as "say 0 0 1 = 5", for tests that follow the document sentence by sentence. */
final class Script {
    /** An object is used for this many calls; a longer run would test what is not promised. */
    private static final int MOST_CALLS = 512;

    private final Check check;
    private final String sentence;
    final StoneApologies x = new StoneApologies();
    private int calls;

    Script(Check check, String sentence) {
        this.check = check;
        this.sentence = sentence;
    }

    /**
     * Rows of calls parted by " | ", on a new object: "type TEXT" writes it, "laid TEXT" wipes, writes and lays it,
     * "say 0 0 1 = 5" asks and compares, "say 0 0 1" just does it.
     */
    static void told(Check check, String sentence, String... rows) {
        Script script = new Script(check, sentence);
        for (String row : rows) script.run(row);
    }

    void run(String row) {
        // What is written is not trimmed: a blank is a letter too.
        if (row.startsWith("type ")) type(row.substring(5));
        else if (row.startsWith("laid ")) lay(row.substring(5));
        else for (String part : row.split(" \\| ")) runOne(part.trim());
        if (calls > MOST_CALLS) throw new IllegalStateException(sentence + ": " + calls + " calls");
    }

    private void runOne(String part) {
        String[] sides = part.split(" = ");
        int got = call(sides[0].trim());
        if (sides.length > 1) check.due(sentence + ": " + part, got, number(sides[1].trim()));
    }

    private void type(String text) {
        calls += text.length();
        Check.type(x, text);
    }

    private void lay(String text) {
        calls += 2;
        x.wipe();
        type(text);
        check.due(sentence + ": laid " + text, x.lay() > 0 ? 1 : 0, 1);
    }

    /** One call, such as "say 0 0 1". */
    int call(String words) {
        calls++;
        String[] word = words.split(" +");
        int[] a = new int[6];
        for (int i = 1; i < word.length; i++) a[i - 1] = number(word[i]);
        return call(word[0], a);
    }

    private static int number(String word) {
        switch (word) {
            case "BAD": return -1;
            case "NO": return -2;
            case "FULL": return -3;
            case "NONE": return -4;
            case "MIN": return Integer.MIN_VALUE;
            case "MAX": return Integer.MAX_VALUE;
            default: return Integer.parseInt(word);
        }
    }

    private int call(String name, int[] a) {
        switch (name) {
            case "write": return x.write(a[0]);
            case "wipe": return x.wipe();
            case "fault": return x.fault();
            case "lay": return x.lay();
            case "block": return x.block(a[0], a[1]);
            case "word": return x.word(a[0]);
            case "speaker": return x.speaker(a[0], a[1]);
            case "heard": return x.heard(a[0], a[1]);
            case "promised": return x.promised(a[0], a[1]);
            case "worth": return x.worth(a[0], a[1], a[2]);
            case "say": return x.say(a[0], a[1], a[2]);
            case "promise": return x.promise(a[0], a[1], a[2]);
            case "take": return x.take(a[0], a[1]);
            case "pass": return x.pass(a[0]);
            case "undo": return x.undo();
            default: return ask(name, a);
        }
    }

    private int ask(String name, int[] a) {
        switch (name) {
            case "least": return x.least(a[0], a[1]);
            case "best": return x.best(a[0]);
            case "order": return x.order(a[0]);
            case "days": return x.days(a[0], a[1]);
            case "frost": return x.frost(a[0]);
            case "uses": return x.uses(a[0]);
            case "harm": return x.harm(a[0]);
            case "liars": return x.liars();
            case "said": return x.said(a[0], a[1], a[2]);
            case "deaf": return x.deaf(a[0], a[1], a[2], a[3], a[4], a[5]);
            case "year": return x.year(a[0], a[1], a[2]);
            case "keep": return x.keep();
            case "back": return x.back();
            case "count": return x.count(a[0]);
            default: throw new IllegalArgumentException("no such call: " + name);
        }
    }

    /** What acts change, and THE TEXT's length. */
    private void see(java.util.List<Integer> all) {
        int blocks = x.count(0), words = x.count(1), speakers = x.count(2);
        calls += 3;
        for (int what : new int[] {3, 8, 9, 10, 11}) all.add(call("count " + what));
        for (int b = 0; b < blocks; b++) {
            for (int what = 2; what < 5; what++) all.add(call("block " + b + " " + what));
            for (int w = 0; w < words; w++) all.add(call("heard " + b + " " + w));
            for (int s = 0; s < speakers; s++) all.add(call("promised " + s + " " + b));
        }
        for (int s = 0; s < speakers; s++) all.add(call("speaker " + s + " 2"));
    }

    /** All that stands; then what stood ahead of each act that can be undone (0), what is kept (1), or what THE TEXT tells (2). */
    java.util.List<Integer> depths(int way) {
        java.util.List<Integer> all = new java.util.ArrayList<>();
        see(all);
        if (way == 0) {
            while (calls < MOST_CALLS && call("undo") >= 0) see(all);
        } else if (way == 1) {
            while (calls < MOST_CALLS && call("back") >= 0) see(all);
            all.add(call("undo"));
        } else {
            all.add(call("fault"));
            all.add(call("lay"));
            see(all);
        }
        if (calls > MOST_CALLS) throw new IllegalStateException(sentence + ": " + calls + " calls");
        return all;
    }
}
