/** Apologies to stone: a quarry, its blocks, its words and those who say them. */
public final class StoneApologies {
    public static final int BAD = -1, NO = -2, FULL = -3, NONE = -4;

    private static final String FIRST_TEXT =
        "b0,20;b1,14;b2,9;b3,6;b0,30;b1,25;w6;w4;w5;w9;w2;s0,4;s1,6;s2,2;s3,3;f2;p0,0,3;p1,0,5;p1,2,1;";

    private static final int MOST_LETTERS = 200, MOST_BLOCKS = 6, MOST_WORDS = 6, MOST_SPEAKERS = 4;
    private static final int MOST_NUMBERS = 3, MOST_NEED = 60, MOST_WORTH = 20, MOST_HOURS = 9, MOST_FROST = 9;
    private static final int USES = 8, MOST_UNDONE = 8, MOST_KEPT = 2, MOST_SAYINGS = 4;
    private static final int MOST_DAYS_AT_ONCE = 20, MOST_SPEAKER_DAYS = 30, MOST_FROST_DAYS = 60;
    private static final int MOST_SOFTER = 99, MOST_DEAF = 8, TENTHS = 10, MOST_SEED = 9999, LONGEST_YEAR = 60;

    private static final int KINDS = 4, MARBLE = 1, SLATE = 2, CHALK = 3;
    private static final int ACTOR = 1, CHILD = 2, PRIEST = 3;
    private static final int LATIN = 0, SIGH = 1, JOKE = 2;
    private static final int IN_BED = 0, OUT = 1, PLACED = 2, CRACKED = 3;

    private final Text text;
    private final Bed bed;
    private final Bed draft;
    private final Quarry now;
    private final Quarry trial;
    private final Pile past;
    private final Pile kept;
    private final Rows rows;
    private final Orders orders;

    public StoneApologies() {
        text = new Text();
        bed = new Bed();
        draft = new Bed();
        now = new Quarry(bed);
        trial = new Quarry(bed);
        past = new Pile(MOST_UNDONE, bed);
        kept = new Pile(MOST_KEPT, bed);
        rows = new Rows(trial);
        orders = new Orders(bed);
        for (int i = 0; i < FIRST_TEXT.length(); i++) text.append(FIRST_TEXT.charAt(i));
        layOut();
        text.length = 0;
    }

    // ---- quarries

    public int write(int letter) {
        if (letter < 32 || letter > 126) return BAD;
        if (text.length >= MOST_LETTERS) return FULL;
        text.append(letter);
        return text.length;
    }

    public int wipe() {
        int length = text.length;
        text.length = 0;
        return length;
    }

    public int fault() {
        return text.readInto(draft);
    }

    public int lay() {
        if (text.readInto(draft) != NONE || !draft.isWhole()) return NO;
        layOut();
        return bed.blocks;
    }

    public int block(int b, int what) {
        if (!isBlock(b)) return BAD;
        switch (what) {
            case 0: return at(bed.blockKinds, b);
            case 1: return at(bed.needs, b);
            case 2: return at(now.softness, b);
            case 3: return at(now.places, b);
            case 4: return at(now.takenFor, b);
            default: return BAD;
        }
    }

    public int word(int w) {
        return isWord(w) ? at(bed.wordWorths, w) : BAD;
    }

    public int speaker(int s, int what) {
        if (!isSpeaker(s)) return BAD;
        switch (what) {
            case 0: return at(bed.speakerKinds, s);
            case 1: return at(bed.dayHours, s);
            case 2: return at(now.hours, s);
            default: return BAD;
        }
    }

    public int heard(int b, int w) {
        return isBlock(b) && isWord(w) ? now.timesHeard(b, w) : BAD;
    }

    public int promised(int s, int b) {
        return isSpeaker(s) && isBlock(b) ? now.vowOf(s, b) : BAD;
    }

    public int worth(int s, int b, int w) {
        return isSaying(s, b, w) ? now.worthOf(s, b, w) : BAD;
    }

    // ---- acts

    public int say(int s, int b, int w) {
        if (!isSaying(s, b, w)) return BAD;
        if (!now.canSay(s, b)) return NO;
        past.push(now);
        now.speak(s, b, w);
        return at(now.softness, b);
    }

    public int promise(int s, int b, int u) {
        if (!isSpeaker(s) || !isBlock(b) || !isUse(u)) return BAD;
        if (!now.isIn(b, IN_BED)) return NO;
        past.push(now);
        int ahead = now.vowOf(s, b);
        now.vow(s, b, u);
        return ahead;
    }

    public int take(int b, int u) {
        if (!isBlock(b) || !isUse(u)) return BAD;
        if (!now.isIn(b, OUT)) return NO;
        past.push(now);
        now.carryOff(b, u);
        return now.isIn(b, PLACED) ? 1 : 0;
    }

    public int pass(int n) {
        if (n < 1 || n > MOST_DAYS_AT_ONCE) return BAD;
        past.push(now);
        for (int i = 0; i < n; i++) now.night();
        return now.day;
    }

    public int undo() {
        return past.pop(now) ? past.size : NO;
    }

    // ---- what is best

    public int least(int b, int k) {
        if (!isBlock(b) || k < -1) return BAD;
        if (!now.isIn(b, IN_BED)) return NO;
        trial.copyFrom(now);
        int many = rows.shortest(b);
        if (many == 0 || k >= many) return NONE;
        return k == -1 ? many : at(rows.row, k);
    }

    public int best(int b) {
        if (!isBlock(b)) return BAD;
        return now.isIn(b, IN_BED) ? now.dearest(b) : NO;
    }

    public int order(int k) {
        if (k < -1) return BAD;
        orders.seek(now);
        if (k == -1) return orders.most;
        return k < orders.asked ? at(orders.found, k) : NONE;
    }

    public int days(int b, int s) {
        if (!isBlock(b) || !isSpeaker(s)) return BAD;
        if (!now.isIn(b, IN_BED)) return NO;
        trial.copyFrom(now);
        for (int d = 0; d <= MOST_SPEAKER_DAYS; d++) {
            if (d > 0) trial.night();
            trial.askOne(b, s);
            if (!trial.isIn(b, IN_BED)) return d;
        }
        return NONE;
    }

    public int frost(int b) {
        if (!isBlock(b)) return BAD;
        if (!now.isIn(b, IN_BED)) return NO;
        int cold = bed.coldFor(b);
        if (cold <= 0) return NONE;
        int d = (now.lackOf(b) + cold - 1) / cold;
        return d <= MOST_FROST_DAYS ? d : NONE;
    }

    public int uses(int b) {
        if (!isBlock(b)) return BAD;
        if (now.isIn(b, PLACED) || now.isIn(b, CRACKED)) return NO;
        int set = 0;
        for (int u = 0; u < USES; u++) {
            if (!now.wouldCrack(b, u)) set |= 1 << u;
        }
        return set;
    }

    public int harm(int b) {
        if (!isBlock(b)) return BAD;
        return now.isIn(b, IN_BED) ? now.mildest(b) : NO;
    }

    // ---- what was so

    public int liars() {
        int fewest = NONE;
        for (int set = 0; set < 1 << bed.speakers; set++) {
            boolean fewer = fewest == NONE || Integer.bitCount(set) < Integer.bitCount(fewest);
            if (fewer && now.explains(set)) fewest = set;
        }
        return fewest;
    }

    public int said(int b, int v, int what) {
        if (!isBlock(b) || v < 0 || v > MOST_SOFTER || !isPart(what)) return BAD;
        if (!now.isIn(b, IN_BED)) return NO;
        int many = 0;
        int first = NONE;
        for (int s = 0; s < bed.speakers; s++) {
            for (int w = 0; w < bed.words; w++) {
                if (now.worthOf(s, b, w) != v) continue;
                if (many == 0) first = saying(s, w);
                many++;
            }
        }
        return what == 0 ? many : first;
    }

    // ---- deaf ones, years

    public int deaf(int s, int b, int w, int n, int x, int part) {
        if (!isSaying(s, b, w) || n < 0 || n > MOST_DEAF || x < 0 || x > TENTHS || !isPart(part)) return BAD;
        if (!now.isIn(b, IN_BED)) return NO;
        int above = 0;
        for (int taken = 0; taken < 1 << n; taken++) {
            if (now.softerBy(s, b, w, taken) >= now.lackOf(b)) above += weight(taken, n, x);
        }
        int below = 1;
        for (int i = 0; i < n; i++) below *= TENTHS;
        int shared = commonMeasure(above, below);
        if (shared < 1) return 0;
        return part == 0 ? above / shared : below / shared;
    }

    public int year(int z, int n, int what) {
        if (z < 0 || z > MOST_SEED || n < 1 || n > LONGEST_YEAR || !isPart(what)) return BAD;
        trial.copyFrom(now);
        for (int k = 0; k < n; k++) live(trial, drawOf(z, k));
        return trial.tally(what == 0 ? PLACED : CRACKED);
    }

    public int keep() {
        if (kept.size >= MOST_KEPT) return FULL;
        kept.push(now);
        return kept.size;
    }

    public int back() {
        if (!kept.pop(now)) return NO;
        past.clear();
        return kept.size;
    }

    public int count(int what) {
        switch (what) {
            case 0: return bed.blocks;
            case 1: return bed.words;
            case 2: return bed.speakers;
            case 3: return now.day;
            case 4: return now.tally(IN_BED);
            case 5: return now.tally(OUT);
            case 6: return now.tally(PLACED);
            case 7: return now.tally(CRACKED);
            case 8: return now.hoursLeft();
            case 9: return past.size;
            case 10: return kept.size;
            case 11: return text.length;
            default: return BAD;
        }
    }

    // ---- what the calls share

    private void layOut() {
        text.readInto(bed);
        bed.reckon();
        now.begin();
        past.clear();
        kept.clear();
    }

    private boolean isBlock(int b) {
        return b >= 0 && b < bed.blocks;
    }

    private boolean isWord(int w) {
        return w >= 0 && w < bed.words;
    }

    private boolean isSpeaker(int s) {
        return s >= 0 && s < bed.speakers;
    }

    private boolean isSaying(int s, int b, int w) {
        return isSpeaker(s) && isBlock(b) && isWord(w);
    }

    private static boolean isUse(int u) {
        return u >= 0 && u < USES;
    }

    private static boolean isPart(int part) {
        return part == 0 || part == 1;
    }

    private static int saying(int s, int w) {
        return 10 * s + w;
    }

    /** How many of the ten-to-the-n ways of n sayings take just those of the set. */
    private static int weight(int taken, int n, int x) {
        int ways = 1;
        for (int i = 0; i < n; i++) ways *= (taken >> i & 1) == 1 ? TENTHS - x : x;
        return ways;
    }

    private static int commonMeasure(int a, int b) {
        // Euclid's steps on two ints are fewer than 64.
        for (int i = 0; i < 64 && b != 0; i++) {
            int rest = a % b;
            a = b;
            b = rest;
        }
        return a;
    }

    private static int drawOf(int z, int k) {
        long x = 7919L * z + 6151L * k + 1;
        return (int) (x * x % 65521);
    }

    private static void live(Quarry quarry, int draw) {
        Bed bed = quarry.bed;
        if (bed.blocks < 1 || bed.speakers < 1 || bed.words < 1) return;
        int b = draw / 8 % bed.blocks;
        int s = draw / 64 % bed.speakers;
        int u = draw / 256 % USES;
        switch (draw % 8) {
            case 5:
                if (quarry.isIn(b, IN_BED)) quarry.vow(s, b, u);
                break;
            case 6:
                if (quarry.isIn(b, OUT)) quarry.carryOff(b, u);
                break;
            case 7:
                quarry.night();
                break;
            default:
                if (quarry.canSay(s, b)) quarry.speak(s, b, draw / 256 % bed.words);
                break;
        }
    }

    // ---- rows of numbers whose every index is looked at first

    private static int at(int[] row, int i) {
        return i >= 0 && i < row.length ? row[i] : 0;
    }

    private static void put(int[] row, int i, int value) {
        if (i >= 0 && i < row.length) row[i] = value;
    }

    private static void fill(int[] row, int value) {
        for (int i = 0; i < row.length; i++) row[i] = value;
    }

    private static void copy(int[] from, int[] to) {
        for (int i = 0; i < from.length && i < to.length; i++) to[i] = from[i];
    }

    private static Quarry pick(Quarry[] row, int i) {
        return i >= 0 && i < row.length ? row[i] : null;
    }

    /** THE TEXT, and the reading of it. */
    private static final class Text {
        final int[] letters = new int[MOST_LETTERS];
        final int[] numbers = new int[MOST_NUMBERS];
        int length;
        int place;

        void append(int letter) {
            if (length >= MOST_LETTERS) return;
            put(letters, length, letter);
            length++;
        }

        /** Tells the bed all items ahead of the first fault; answers its place, or NONE. */
        int readInto(Bed bed) {
            bed.clear();
            place = 0;
            for (int items = 0; items < MOST_LETTERS && place < length; items++) {
                int first = place;
                if (!readItem(bed)) return first;
            }
            return NONE;
        }

        private boolean readItem(Bed bed) {
            int letter = letterAt(place);
            place++;
            int many = readNumbers();
            int a = at(numbers, 0);
            int b = at(numbers, 1);
            switch (letter) {
                case 'b': return many == 2 && bed.addBlock(a, b);
                case 'w': return many == 1 && bed.addWord(a);
                case 's': return many == 2 && bed.addSpeaker(a, b);
                case 'f': return many == 1 && bed.setFrost(a);
                case 'p': return many == 3 && bed.addVow(a, b, at(numbers, 2));
                default: return false;
            }
        }

        /** How many numbers stand from here to the next ; (BAD: not in the form of an item). */
        private int readNumbers() {
            for (int n = 0; n < MOST_NUMBERS; n++) {
                int number = readNumber();
                if (number == BAD) return BAD;
                put(numbers, n, number);
                int mark = letterAt(place);
                place++;
                if (mark == ';') return n + 1;
                if (mark != ',') return BAD;
            }
            return BAD;
        }

        private int readNumber() {
            int figure = letterAt(place) - '0';
            if (figure < 0 || figure > 9) return BAD;
            place++;
            int next = letterAt(place) - '0';
            if (next < 0 || next > 9) return figure;
            place++;
            return 10 * figure + next;
        }

        /** The letter there; 0 behind the end, where older letters may still stand. */
        private int letterAt(int i) {
            return i >= 0 && i < length && i < letters.length ? letters[i] : 0;
        }
    }

    /** What a text tells; none of it changes by an act. */
    private static final class Bed {
        int blocks;
        int words;
        int speakers;
        int chill;
        final int[] blockKinds = new int[MOST_BLOCKS];
        final int[] needs = new int[MOST_BLOCKS];
        final int[] wordWorths = new int[MOST_WORDS];
        final int[] speakerKinds = new int[MOST_SPEAKERS];
        final int[] dayHours = new int[MOST_SPEAKERS];
        final int[] firstVows = new int[MOST_SPEAKERS * MOST_BLOCKS];
        /** By block and word, what it is worth unheard, by a mason. */
        final int[] plainWorths = new int[MOST_BLOCKS * MOST_WORDS];
        /** By speaker, block and word, what it is worth unheard. */
        final int[] freshWorths = new int[MOST_SPEAKERS * MOST_BLOCKS * MOST_WORDS];

        void clear() {
            blocks = 0;
            words = 0;
            speakers = 0;
            chill = 1;
            fill(firstVows, NONE);
        }

        boolean isWhole() {
            return blocks > 0 && words > 0 && speakers > 0;
        }

        boolean addBlock(int kind, int need) {
            if (blocks >= MOST_BLOCKS || kind >= KINDS || need < 1 || need > MOST_NEED) return false;
            put(blockKinds, blocks, kind);
            put(needs, blocks, need);
            blocks++;
            return true;
        }

        boolean addWord(int value) {
            if (words >= MOST_WORDS || value < 1 || value > MOST_WORTH) return false;
            put(wordWorths, words, value);
            words++;
            return true;
        }

        boolean addSpeaker(int kind, int daily) {
            if (speakers >= MOST_SPEAKERS || kind >= KINDS || daily < 1 || daily > MOST_HOURS) return false;
            put(speakerKinds, speakers, kind);
            put(dayHours, speakers, daily);
            speakers++;
            return true;
        }

        boolean setFrost(int value) {
            if (value > MOST_FROST) return false;
            chill = value;
            return true;
        }

        boolean addVow(int s, int b, int u) {
            if (s >= speakers || b >= blocks || !isUse(u)) return false;
            put(firstVows, vowPlace(s, b), u);
            return true;
        }

        void reckon() {
            for (int b = 0; b < blocks; b++) {
                for (int w = 0; w < words; w++) {
                    int plain = plainWorth(at(blockKinds, b), w);
                    put(plainWorths, wordPlace(b, w), plain);
                    for (int s = 0; s < speakers; s++) {
                        put(freshWorths, sayingPlace(s, b, w), spokenWorth(s, b, w, plain));
                    }
                }
            }
        }

        private int plainWorth(int kind, int w) {
            int value = at(wordWorths, w);
            switch (kind) {
                case MARBLE: return w == LATIN ? 2 * value : value / 2;
                case SLATE: return w == SIGH ? 3 * value : value;
                case CHALK: return w == JOKE ? 0 : value;
                default: return value;
            }
        }

        private int spokenWorth(int s, int b, int w, int plain) {
            switch (at(speakerKinds, s)) {
                case ACTOR: return 2 * plain;
                case CHILD: return at(needs, b) <= 10 ? plain + 4 : plain;
                case PRIEST: return w == LATIN ? plain + 3 : plain;
                default: return plain;
            }
        }

        /** By how much a block in the bed is softer by one day. */
        int coldFor(int b) {
            return at(blockKinds, b) == SLATE ? 2 * chill : chill;
        }

        static int vowPlace(int s, int b) {
            return s * MOST_BLOCKS + b;
        }

        static int wordPlace(int b, int w) {
            return b * MOST_WORDS + w;
        }

        static int sayingPlace(int s, int b, int w) {
            return (s * MOST_BLOCKS + b) * MOST_WORDS + w;
        }
    }

    /** How things stand in the bed; all that acts change. */
    private static final class Quarry {
        final Bed bed;
        int day;
        final int[] softness = new int[MOST_BLOCKS];
        final int[] places = new int[MOST_BLOCKS];
        final int[] takenFor = new int[MOST_BLOCKS];
        final int[] hours = new int[MOST_SPEAKERS];
        final int[] hearings = new int[MOST_BLOCKS * MOST_WORDS];
        final int[] vows = new int[MOST_SPEAKERS * MOST_BLOCKS];

        Quarry(Bed bed) {
            this.bed = bed;
        }

        void begin() {
            day = 0;
            fill(softness, 0);
            fill(places, IN_BED);
            fill(takenFor, NONE);
            copy(bed.dayHours, hours);
            fill(hearings, 0);
            copy(bed.firstVows, vows);
        }

        void copyFrom(Quarry other) {
            day = other.day;
            copy(other.softness, softness);
            copy(other.places, places);
            copy(other.takenFor, takenFor);
            copy(other.hours, hours);
            copy(other.hearings, hearings);
            copy(other.vows, vows);
        }

        boolean isIn(int b, int place) {
            return at(places, b) == place;
        }

        int tally(int place) {
            int many = 0;
            for (int b = 0; b < bed.blocks; b++) {
                if (at(places, b) == place) many++;
            }
            return many;
        }

        int hoursLeft() {
            int sum = 0;
            for (int s = 0; s < bed.speakers; s++) sum += at(hours, s);
            return sum;
        }

        int lackOf(int b) {
            return at(bed.needs, b) - at(softness, b);
        }

        int timesHeard(int b, int w) {
            return at(hearings, Bed.wordPlace(b, w));
        }

        int worthOf(int s, int b, int w) {
            int fresh = at(bed.freshWorths, Bed.sayingPlace(s, b, w));
            return Math.max(0, fresh - at(hearings, Bed.wordPlace(b, w)));
        }

        int vowOf(int s, int b) {
            return at(vows, Bed.vowPlace(s, b));
        }

        boolean canSay(int s, int b) {
            return at(hours, s) > 0 && at(places, b) == IN_BED;
        }

        void speak(int s, int b, int w) {
            int softer = worthOf(s, b, w);
            put(hours, s, at(hours, s) - 1);
            for (int other = b - 2; other <= b + 2; other++) {
                if (other == b || hearsThrough(b, other)) hear(other, w, 1);
            }
            soften(b, softer);
        }

        void hear(int b, int w, int more) {
            int place = Bed.wordPlace(b, w);
            put(hearings, place, at(hearings, place) + more);
        }

        /** If the other, one or two places away, hears what is said to the block. */
        private boolean hearsThrough(int b, int other) {
            if (other < 0 || other >= bed.blocks || at(places, other) != IN_BED) return false;
            boolean beside = other == b - 1 || other == b + 1;
            return beside || at(places, (b + other) / 2) == IN_BED;
        }

        private void soften(int b, int by) {
            int soft = at(softness, b) + by;
            put(softness, b, soft);
            if (soft >= at(bed.needs, b)) put(places, b, OUT);
        }

        void vow(int s, int b, int u) {
            put(vows, Bed.vowPlace(s, b), u);
        }

        void carryOff(int b, int u) {
            put(places, b, wouldCrack(b, u) ? CRACKED : PLACED);
            put(takenFor, b, u);
        }

        boolean wouldCrack(int b, int u) {
            if (at(bed.blockKinds, b) == CHALK) return false;
            for (int s = 0; s < bed.speakers; s++) {
                if (belies(s, b, u)) return true;
            }
            return false;
        }

        private boolean belies(int s, int b, int u) {
            int vow = vowOf(s, b);
            return vow != NONE && vow != u;
        }

        void night() {
            for (int b = 0; b < bed.blocks; b++) {
                if (at(places, b) == IN_BED) soften(b, bed.coldFor(b));
            }
            copy(bed.dayHours, hours);
            day++;
        }

        /** The saying worth most to the block, of one who has an hour left; NONE. */
        int dearest(int b) {
            int most = 0;
            int found = NONE;
            for (int s = 0; s < bed.speakers; s++) {
                if (at(hours, s) <= 0) continue;
                for (int w = 0; w < bed.words; w++) {
                    int value = worthOf(s, b, w);
                    if (value <= most) continue;
                    most = value;
                    found = saying(s, w);
                }
            }
            return found;
        }

        /** The best is said to the block again and again, till it is out or there is none. */
        void askAll(int b) {
            for (int left = hoursLeft(); left > 0 && at(places, b) == IN_BED; left--) {
                int found = dearest(b);
                if (found < 0) return;
                speak(found / 10, b, found % 10);
            }
        }

        /** One speaker alone says his best to the block, as long as he has an hour left today. */
        void askOne(int b, int s) {
            for (int left = at(hours, s); left > 0 && at(places, b) == IN_BED; left--) {
                int w = dearestWord(s, b);
                if (w < 0) return;
                speak(s, b, w);
            }
        }

        private int dearestWord(int s, int b) {
            int most = 0;
            int found = NONE;
            for (int w = 0; w < bed.words; w++) {
                int value = worthOf(s, b, w);
                if (value <= most) continue;
                most = value;
                found = w;
            }
            return found;
        }

        /** The saying to the block that does least harm to the others; NONE. */
        int mildest(int b) {
            int found = NONE;
            int least = 0;
            int most = 0;
            for (int s = 0; s < bed.speakers; s++) {
                if (at(hours, s) <= 0) continue;
                for (int w = 0; w < bed.words; w++) {
                    int value = worthOf(s, b, w);
                    if (value <= 0) continue;
                    int harm = harmOf(b, w);
                    boolean milder = found == NONE || harm < least || harm == least && value > most;
                    if (!milder) continue;
                    found = saying(s, w);
                    least = harm;
                    most = value;
                }
            }
            return found;
        }

        private int harmOf(int b, int w) {
            int sum = 0;
            for (int other = b - 2; other <= b + 2; other++) {
                if (other == b || !hearsThrough(b, other)) continue;
                int plain = at(bed.plainWorths, Bed.wordPlace(other, w));
                sum += Math.max(0, plain - timesHeard(other, w));
            }
            return sum;
        }

        /** If for each cracked block one of the set has promised it something else. */
        boolean explains(int set) {
            for (int b = 0; b < bed.blocks; b++) {
                if (at(places, b) == CRACKED && !explainsOne(set, b)) return false;
            }
            return true;
        }

        private boolean explainsOne(int set, int b) {
            for (int s = 0; s < bed.speakers; s++) {
                if ((set >> s & 1) == 1 && belies(s, b, at(takenFor, b))) return true;
            }
            return false;
        }

        /** How much softer the block is if the word is said over and over and those of the set are taken. */
        int softerBy(int s, int b, int w, int taken) {
            int fresh = worthOf(s, b, w);
            int sum = 0;
            for (int i = 0; i < MOST_DEAF; i++) {
                if ((taken >> i & 1) == 1) sum += Math.max(0, fresh - i);
            }
            return sum;
        }
    }

    /** The last quarries laid on it; on a full one the lowest gives way. */
    private static final class Pile {
        final Quarry[] slots;
        int next;
        int size;

        Pile(int most, Bed bed) {
            slots = new Quarry[most < 1 ? 1 : most];
            for (int i = 0; i < slots.length; i++) slots[i] = new Quarry(bed);
        }

        void clear() {
            size = 0;
        }

        void push(Quarry quarry) {
            Quarry slot = pick(slots, next);
            if (slot == null) return;
            slot.copyFrom(quarry);
            next = next + 1 < slots.length ? next + 1 : 0;
            if (size < slots.length) size++;
        }

        /** Sets the quarry as the topmost one was; false if there is none. */
        boolean pop(Quarry quarry) {
            if (size < 1) return false;
            int top = next > 0 ? next - 1 : slots.length - 1;
            Quarry slot = pick(slots, top);
            if (slot == null) return false;
            quarry.copyFrom(slot);
            next = top;
            size--;
            return true;
        }
    }

    /** The search for the fewest sayings to one block. */
    private static final class Rows {
        final Quarry trial;
        final int[] row = new int[MOST_SAYINGS];

        Rows(Quarry trial) {
            this.trial = trial;
        }

        /** How many sayings the shortest row has that brings the block out of the trial; 0 if none does. */
        int shortest(int b) {
            for (int many = 1; many <= MOST_SAYINGS; many++) {
                if (extend(this, b, 0, many)) return many;
            }
            return 0;
        }

        private static boolean extend(Rows rows, int b, int depth, int many) {
            Quarry trial = rows.trial;
            if (trial.lackOf(b) <= 0) return true;
            if (depth >= many || depth >= MOST_SAYINGS) return false;
            // A word is never worth more later, so the best one now bounds all that follow.
            int found = trial.dearest(b);
            if (found < 0) return false;
            int most = trial.worthOf(found / 10, b, found % 10);
            if (most * (many - depth) < trial.lackOf(b)) return false;
            for (int s = 0; s < trial.bed.speakers; s++) {
                if (at(trial.hours, s) <= 0) continue;
                for (int w = 0; w < trial.bed.words; w++) {
                    put(rows.row, depth, saying(s, w));
                    int softer = trial.worthOf(s, b, w);
                    rows.shift(s, b, w, 1, softer);
                    boolean out = extend(rows, b, depth + 1, many);
                    rows.shift(s, b, w, -1, -softer);
                    if (out) return true;
                }
            }
            return false;
        }

        /** Says (or takes back) in the trial, where only this block counts and stays in the bed. */
        private void shift(int s, int b, int w, int times, int softer) {
            put(trial.hours, s, at(trial.hours, s) - times);
            trial.hear(b, w, times);
            put(trial.softness, b, at(trial.softness, b) + softer);
        }
    }

    /** The search for the order in which most blocks come out. */
    private static final class Orders {
        final Quarry[] steps = new Quarry[MOST_BLOCKS + 1];
        final int[] row = new int[MOST_BLOCKS];
        final int[] found = new int[MOST_BLOCKS];
        int asked;
        int most;

        Orders(Bed bed) {
            for (int i = 0; i < steps.length; i++) steps[i] = new Quarry(bed);
        }

        void seek(Quarry quarry) {
            Quarry start = pick(steps, 0);
            if (start == null) return;
            start.copyFrom(quarry);
            asked = start.tally(IN_BED);
            most = -1;
            extend(this, 0, 0, 0);
        }

        private static void extend(Orders orders, int depth, int used, int out) {
            // Only more blocks count: of equal orders the first one stays.
            if (out + orders.asked - depth <= orders.most) return;
            if (depth >= orders.asked) {
                orders.most = out;
                copy(orders.row, orders.found);
                return;
            }
            Quarry here = pick(orders.steps, depth);
            Quarry next = pick(orders.steps, depth + 1);
            Quarry start = pick(orders.steps, 0);
            if (here == null || next == null || start == null) return;
            for (int b = 0; b < here.bed.blocks; b++) {
                if ((used >> b & 1) == 1 || !start.isIn(b, IN_BED)) continue;
                put(orders.row, depth, b);
                next.copyFrom(here);
                next.askAll(b);
                extend(orders, depth + 1, used | 1 << b, next.isIn(b, OUT) ? out + 1 : out);
            }
        }
    }
}
