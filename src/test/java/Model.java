import java.math.BigInteger;
import java.util.ArrayDeque;
import java.util.ArrayList;
import java.util.Arrays;
import java.util.Deque;
import java.util.List;
import java.util.regex.Matcher;
import java.util.regex.Pattern;

/** The document once more, in the plainest way, with no thought of speed: what an object is compared with. */
final class Model {
    static final int BAD = -1, NO = -2, FULL = -3, NONE = -4;

    static final class Block {
        int kind, need, soft, place, taken = NONE;
        int[] heard = new int[6];
        int[] vows = {NONE, NONE, NONE, NONE};
    }

    static final class Speaker {
        int kind, daily, left;
    }

    /** All that is kept or undone at one time. */
    static final class State {
        List<Block> blocks = new ArrayList<>();
        List<Integer> words = new ArrayList<>();
        List<Speaker> speakers = new ArrayList<>();
        int frost = 1;
        int day;

        State twin() {
            State t = new State();
            for (Block b : blocks) {
                Block c = new Block();
                c.kind = b.kind;
                c.need = b.need;
                c.soft = b.soft;
                c.place = b.place;
                c.taken = b.taken;
                c.heard = b.heard.clone();
                c.vows = b.vows.clone();
                t.blocks.add(c);
            }
            t.words.addAll(words);
            for (Speaker s : speakers) {
                Speaker c = new Speaker();
                c.kind = s.kind;
                c.daily = s.daily;
                c.left = s.left;
                t.speakers.add(c);
            }
            t.frost = frost;
            t.day = day;
            return t;
        }

        boolean inBed(int b) {
            return blocks.get(b).place == 0;
        }

        int forStone(int b, int w) {
            int v = words.get(w);
            int kind = blocks.get(b).kind;
            if (kind == 1) return w == 0 ? v * 2 : v / 2;
            if (kind == 2 && w == 1) return v * 3;
            if (kind == 3 && w == 2) return 0;
            return v;
        }

        int worth(int s, int b, int w) {
            int v = forStone(b, w);
            int kind = speakers.get(s).kind;
            if (kind == 1) v *= 2;
            if (kind == 2 && blocks.get(b).need <= 10) v += 4;
            if (kind == 3 && w == 0) v += 3;
            v -= blocks.get(b).heard[w];
            return v < 0 ? 0 : v;
        }

        List<Integer> listeners(int b) {
            List<Integer> all = new ArrayList<>();
            for (int o = 0; o < blocks.size(); o++) {
                int far = Math.abs(o - b);
                if (far < 1 || far > 2 || !inBed(o)) continue;
                if (far == 2 && !inBed(Math.min(o, b) + 1)) continue;
                all.add(o);
            }
            return all;
        }

        void say(int s, int b, int w) {
            List<Integer> listeners = listeners(b);
            speakers.get(s).left--;
            Block block = blocks.get(b);
            block.soft += worth(s, b, w);
            block.heard[w]++;
            for (int o : listeners) blocks.get(o).heard[w]++;
            if (block.soft >= block.need) block.place = 1;
        }

        void day() {
            for (Block b : blocks) {
                if (b.place != 0) continue;
                b.soft += b.kind == 2 ? frost + frost : frost;
                if (b.soft >= b.need) b.place = 1;
            }
            for (Speaker s : speakers) s.left = s.daily;
            day++;
        }

        boolean cracks(int b, int u) {
            boolean other = false;
            for (int v : blocks.get(b).vows) other |= v != NONE && v != u;
            return other && blocks.get(b).kind != 3;
        }

        void take(int b, int u) {
            blocks.get(b).place = cracks(b, u) ? 3 : 2;
            blocks.get(b).taken = u;
        }

        int many(int place) {
            int n = 0;
            for (Block b : blocks) n += b.place == place ? 1 : 0;
            return n;
        }

        /** All sayings {speaker, word} of those who have an hour left, in the order of the document. */
        List<int[]> sayings() {
            List<int[]> all = new ArrayList<>();
            for (int s = 0; s < speakers.size(); s++) {
                for (int w = 0; w < words.size() && speakers.get(s).left > 0; w++) all.add(new int[] {s, w});
            }
            return all;
        }

        int[] best(int b) {
            int[] found = null;
            for (int[] a : sayings()) {
                int v = worth(a[0], b, a[1]);
                if (v > 0 && (found == null || v > worth(found[0], b, found[1]))) found = a;
            }
            return found;
        }
    }

    private final StringBuilder text = new StringBuilder();
    private State now;
    private Deque<State> past = new ArrayDeque<>();
    private Deque<State> kept = new ArrayDeque<>();

    Model() {
        text.append("b0,20;b1,14;b2,9;b3,6;b0,30;b1,25;w6;w4;w5;w9;w2;s0,4;s1,6;s2,2;s3,3;f2;p0,0,3;p1,0,5;p1,2,1;");
        lay();
        text.setLength(0);
    }

    int write(int letter) {
        if (letter < 32 || letter > 126) return BAD;
        if (text.length() == 200) return FULL;
        text.append((char) letter);
        return text.length();
    }

    int wipe() {
        int n = text.length();
        text.setLength(0);
        return n;
    }

    private static final Pattern ITEM = Pattern.compile("([bwsfp])([0-9][0-9]?(?:,[0-9][0-9]?)*);");

    private int read(State state) {
        int place = 0;
        Matcher m = ITEM.matcher(text);
        while (place < text.length()) {
            m.region(place, text.length());
            if (!m.lookingAt() || !tell(state, m.group(1), m.group(2).split(","))) return place;
            place = m.end();
        }
        return NONE;
    }

    private static boolean tell(State state, String letter, String[] figures) {
        int[] n = new int[figures.length];
        for (int i = 0; i < n.length; i++) n[i] = Integer.parseInt(figures[i]);
        if (letter.equals("b")) {
            if (n.length != 2 || n[0] > 3 || n[1] < 1 || n[1] > 60 || state.blocks.size() == 6) return false;
            Block b = new Block();
            b.kind = n[0];
            b.need = n[1];
            state.blocks.add(b);
        } else if (letter.equals("w")) {
            if (n.length != 1 || n[0] < 1 || n[0] > 20 || state.words.size() == 6) return false;
            state.words.add(n[0]);
        } else if (letter.equals("s")) {
            if (n.length != 2 || n[0] > 3 || n[1] < 1 || n[1] > 9 || state.speakers.size() == 4) return false;
            Speaker s = new Speaker();
            s.kind = n[0];
            s.daily = n[1];
            s.left = n[1];
            state.speakers.add(s);
        } else if (letter.equals("f")) {
            if (n.length != 1 || n[0] > 9) return false;
            state.frost = n[0];
        } else {
            if (n.length != 3 || n[0] >= state.speakers.size() || n[1] >= state.blocks.size() || n[2] > 7) return false;
            state.blocks.get(n[1]).vows[n[0]] = n[2];
        }
        return true;
    }

    int fault() {
        return read(new State());
    }

    int lay() {
        State state = new State();
        if (read(state) != NONE || state.blocks.isEmpty() || state.words.isEmpty() || state.speakers.isEmpty()) return NO;
        now = state;
        past.clear();
        kept.clear();
        return state.blocks.size();
    }

    private boolean noBlock(int b) {
        return b < 0 || b >= now.blocks.size();
    }

    private boolean noWord(int w) {
        return w < 0 || w >= now.words.size();
    }

    private boolean noSpeaker(int s) {
        return s < 0 || s >= now.speakers.size();
    }

    int block(int b, int what) {
        if (noBlock(b) || what < 0 || what > 4) return BAD;
        Block x = now.blocks.get(b);
        return new int[] {x.kind, x.need, x.soft, x.place, x.taken}[what];
    }

    int word(int w) {
        return noWord(w) ? BAD : now.words.get(w);
    }

    int speaker(int s, int what) {
        if (noSpeaker(s) || what < 0 || what > 2) return BAD;
        Speaker x = now.speakers.get(s);
        return new int[] {x.kind, x.daily, x.left}[what];
    }

    int heard(int b, int w) {
        return noBlock(b) || noWord(w) ? BAD : now.blocks.get(b).heard[w];
    }

    int promised(int s, int b) {
        return noSpeaker(s) || noBlock(b) ? BAD : now.blocks.get(b).vows[s];
    }

    int worth(int s, int b, int w) {
        return noSpeaker(s) || noBlock(b) || noWord(w) ? BAD : now.worth(s, b, w);
    }

    private void act() {
        past.addLast(now.twin());
        if (past.size() > 8) past.removeFirst();
    }

    int say(int s, int b, int w) {
        if (noSpeaker(s) || noBlock(b) || noWord(w)) return BAD;
        if (now.speakers.get(s).left == 0 || !now.inBed(b)) return NO;
        act();
        now.say(s, b, w);
        return now.blocks.get(b).soft;
    }

    int promise(int s, int b, int u) {
        if (noSpeaker(s) || noBlock(b) || u < 0 || u > 7) return BAD;
        if (!now.inBed(b)) return NO;
        act();
        int ahead = now.blocks.get(b).vows[s];
        now.blocks.get(b).vows[s] = u;
        return ahead;
    }

    int take(int b, int u) {
        if (noBlock(b) || u < 0 || u > 7) return BAD;
        if (now.blocks.get(b).place != 1) return NO;
        act();
        now.take(b, u);
        return now.blocks.get(b).place == 2 ? 1 : 0;
    }

    int pass(int n) {
        if (n < 1 || n > 20) return BAD;
        act();
        for (int i = 0; i < n; i++) now.day();
        return now.day;
    }

    int undo() {
        if (past.isEmpty()) return NO;
        now = past.removeLast();
        return past.size();
    }

    int least(int b, int k) {
        if (noBlock(b) || k < -1) return BAD;
        if (!now.inBed(b)) return NO;
        for (int n = 1; n <= 4; n++) {
            List<Integer> row = row(now, b, n);
            if (row == null) continue;
            if (k == -1) return n;
            return k < n ? row.get(k) : NONE;
        }
        return NONE;
    }

    private static List<Integer> row(State state, int b, int n) {
        if (!state.inBed(b)) return new ArrayList<>();
        if (n == 0) return null;
        // Even if each were worth as much as the best is now, it would not do: only to have an end.
        int[] best = state.best(b);
        Block block = state.blocks.get(b);
        if (best == null || block.soft + n * state.worth(best[0], b, best[1]) < block.need) return null;
        for (int[] a : state.sayings()) {
            State next = state.twin();
            next.say(a[0], b, a[1]);
            List<Integer> rest = row(next, b, n - 1);
            if (rest == null) continue;
            rest.add(0, 10 * a[0] + a[1]);
            return rest;
        }
        return null;
    }

    int best(int b) {
        if (noBlock(b)) return BAD;
        if (!now.inBed(b)) return NO;
        int[] a = now.best(b);
        return a == null ? NONE : 10 * a[0] + a[1];
    }

    int order(int k) {
        if (k < -1) return BAD;
        List<Integer> bed = new ArrayList<>();
        for (int b = 0; b < now.blocks.size(); b++) {
            if (now.inBed(b)) bed.add(b);
        }
        List<List<Integer>> orders = new ArrayList<>();
        orders(bed, new ArrayList<>(), orders);
        int most = -1;
        List<Integer> found = null;
        for (List<Integer> order : orders) {
            State state = now.twin();
            int out = 0;
            for (int b : order) {
                while (state.inBed(b) && state.best(b) != null) {
                    int[] a = state.best(b);
                    state.say(a[0], b, a[1]);
                }
                if (!state.inBed(b)) out++;
            }
            if (out > most) {
                most = out;
                found = order;
            }
        }
        if (k == -1) return most;
        return k < found.size() ? found.get(k) : NONE;
    }

    private static void orders(List<Integer> rest, List<Integer> ahead, List<List<Integer>> all) {
        if (rest.isEmpty()) all.add(new ArrayList<>(ahead));
        for (int i = 0; i < rest.size(); i++) {
            List<Integer> fewer = new ArrayList<>(rest);
            ahead.add(fewer.remove(i));
            orders(fewer, ahead, all);
            ahead.remove(ahead.size() - 1);
        }
    }

    int days(int b, int s) {
        if (noBlock(b) || noSpeaker(s)) return BAD;
        if (!now.inBed(b)) return NO;
        State state = now.twin();
        for (int d = 0; d <= 30; d++) {
            if (d > 0) state.day();
            while (state.inBed(b) && state.speakers.get(s).left > 0) {
                int dear = 0;
                for (int w = 0; w < state.words.size(); w++) {
                    if (state.worth(s, b, w) > state.worth(s, b, dear)) dear = w;
                }
                if (state.worth(s, b, dear) == 0) break;
                state.say(s, b, dear);
            }
            if (!state.inBed(b)) return d;
        }
        return NONE;
    }

    int frost(int b) {
        if (noBlock(b)) return BAD;
        if (!now.inBed(b)) return NO;
        State state = now.twin();
        for (int d = 1; d <= 60; d++) {
            state.day();
            if (!state.inBed(b)) return d;
        }
        return NONE;
    }

    int uses(int b) {
        if (noBlock(b)) return BAD;
        if (now.blocks.get(b).place > 1) return NO;
        int bits = 0;
        for (int u = 7; u >= 0; u--) bits = 2 * bits + (now.cracks(b, u) ? 0 : 1);
        return bits;
    }

    int harm(int b) {
        if (noBlock(b)) return BAD;
        if (!now.inBed(b)) return NO;
        int[] found = null;
        int foundHarm = 0;
        for (int[] a : now.sayings()) {
            int v = now.worth(a[0], b, a[1]);
            if (v == 0) continue;
            int harm = 0;
            for (int o : now.listeners(b)) {
                harm += Math.max(0, now.forStone(o, a[1]) - now.blocks.get(o).heard[a[1]]);
            }
            if (found != null && harm > foundHarm) continue;
            if (found != null && harm == foundHarm && v <= now.worth(found[0], b, found[1])) continue;
            found = a;
            foundHarm = harm;
        }
        return found == null ? NONE : 10 * found[0] + found[1];
    }

    int liars() {
        for (int n = 0; n <= 4; n++) {
            for (int set = 0; set < 16; set++) {
                if (Integer.bitCount(set) == n && hits(set)) return set;
            }
        }
        throw new IllegalStateException("a block that none has lied to is cracked");
    }

    private boolean hits(int set) {
        for (Block b : now.blocks) {
            if (b.place != 3) continue;
            int liars = 0;
            for (int s = 0; s < 4; s++) {
                if (b.vows[s] != NONE && b.vows[s] != b.taken) liars |= 1 << s;
            }
            if ((liars & set) == 0) return false;
        }
        return true;
    }

    int said(int b, int v, int what) {
        if (noBlock(b) || v < 0 || v > 99 || what < 0 || what > 1) return BAD;
        if (!now.inBed(b)) return NO;
        List<Integer> all = new ArrayList<>();
        for (int s = 0; s < now.speakers.size(); s++) {
            for (int w = 0; w < now.words.size(); w++) {
                if (now.worth(s, b, w) == v) all.add(10 * s + w);
            }
        }
        if (what == 0) return all.size();
        return all.isEmpty() ? NONE : all.get(0);
    }

    int deaf(int s, int b, int w, int n, int x, int part) {
        if (noSpeaker(s) || noBlock(b) || noWord(w) || n < 0 || n > 8 || x < 0 || x > 10 || part < 0 || part > 1) return BAD;
        if (!now.inBed(b)) return NO;
        BigInteger above = ways(now, s, b, w, n, x);
        BigInteger below = BigInteger.TEN.pow(n);
        BigInteger shared = above.gcd(below);
        return (part == 0 ? above : below).divide(shared).intValueExact();
    }

    private static BigInteger ways(State state, int s, int b, int w, int n, int x) {
        if (n == 0) return state.inBed(b) ? BigInteger.ZERO : BigInteger.ONE;
        if (!state.inBed(b)) return BigInteger.TEN.pow(n);
        State takes = state.twin();
        takes.say(s, b, w);
        State misses = state.twin();
        misses.blocks.get(b).heard[w]++;
        return ways(takes, s, b, w, n - 1, x).multiply(BigInteger.valueOf(10 - x))
            .add(ways(misses, s, b, w, n - 1, x).multiply(BigInteger.valueOf(x)));
    }

    int year(int z, int n, int what) {
        if (z < 0 || z > 9999 || n < 1 || n > 60 || what < 0 || what > 1) return BAD;
        State state = now.twin();
        for (int k = 0; k < n; k++) {
            BigInteger x = BigInteger.valueOf(7919L * z + 6151L * k + 1);
            int draw = x.pow(2).mod(BigInteger.valueOf(65521)).intValueExact();
            int b = draw / 8 % state.blocks.size();
            int s = draw / 64 % state.speakers.size();
            int w = draw / 256 % state.words.size();
            int u = draw / 256 % 8;
            int act = draw % 8;
            if (act <= 4 && state.inBed(b) && state.speakers.get(s).left > 0) state.say(s, b, w);
            if (act == 5 && state.inBed(b)) state.blocks.get(b).vows[s] = u;
            if (act == 6 && state.blocks.get(b).place == 1) state.take(b, u);
            if (act == 7) state.day();
        }
        return state.many(2 + what);
    }

    int keep() {
        if (kept.size() == 2) return FULL;
        kept.addLast(now.twin());
        return kept.size();
    }

    int back() {
        if (kept.isEmpty()) return NO;
        now = kept.removeLast();
        past.clear();
        return kept.size();
    }

    int count(int what) {
        if (what < 0 || what > 11) return BAD;
        int hours = 0;
        for (Speaker s : now.speakers) hours += s.left;
        List<Integer> all = Arrays.asList(now.blocks.size(), now.words.size(), now.speakers.size(), now.day,
            now.many(0), now.many(1), now.many(2), now.many(3), hours, past.size(), kept.size(), text.length());
        return all.get(what);
    }
}
