/**
 * A court that hears parrots: a bargain is said before birds that say it on, each sort with a slip of its own.
 * The calls are those of ../shared/DOC.md. SAYINGS are held as numbers from 0 on, by length, then letters.
 */
public final class ParrotCourt {
    public static final int UNKNOWN = -1, OUTSIDE = -2, STATE = -3, FULL = -4, NO = -5, NONE = -6;
    public static final long GONE = -1000000000000000000L;

    private static final int BIRDS = 6, ALL_BIRDS = 63;
    private static final int BARGAIN = 6, MUTE = 7;
    private static final int ECHOES = 0, DROPS = 1, CHANGES = 2, JOINS = 3, ANSWERS = 4;
    private static final int WORDS = 3, LONGEST = 5, SAYINGS = 364;
    private static final int[] POWERS = {1, 3, 9, 27, 81, 243};
    // shorter ones stand ahead: 1, 1 + 3, 1 + 3 + 9 ..
    private static final int[] FIRSTS = {0, 1, 4, 13, 40, 121, 364};
    private static final int SIGNS = 48, MOST_PARTS = 16, IMAGES = 2;
    private static final int SILENCE = -1, NOBODY = -1;
    private static final int NEVER = 1000;

    private final Slips table = new Slips();
    private final Pad pad = new Pad();
    private final Days draft = new Days();
    private final Court court = new Court();
    private final Court[] images = {new Court(), new Court()};
    private final boolean[] imageKept = new boolean[IMAGES];
    private final Walk walk = new Walk();
    private final Histories histories = new Histories();
    private final Histories fewerTold = new Histories();
    private final int[] fewestWithout = new int[BIRDS];
    private final Telling telling = new Telling();
    private boolean historiesFresh = false;
    private boolean withoutFresh = false;

    public ParrotCourt() {
    }

    // ---- 1 birds, days

    public int sort(int bird, int v) {
        if (!isBird(bird)) return UNKNOWN;
        if (v < ECHOES || v > ANSWERS) return OUTSIDE;
        int was = court.sorts[bird];
        court.sorts[bird] = v;
        forgetHistories();
        return was;
    }

    public int say(int sign) {
        if (sign < 33 || sign > 126) return OUTSIDE;
        return pad.add(sign) ? pad.size : FULL;
    }

    public int wipe() {
        int were = pad.size;
        pad.size = 0;
        return were;
    }

    public int fault(int how) {
        if (how == 0) return pad.readDays(draft);
        if (how == 1) return pad.sayingFault();
        return OUTSIDE;
    }

    public int days() {
        if (pad.readDays(draft) != NONE) return NO;
        court.days.copy(draft);
        pad.size = 0;
        forgetHistories();
        return court.days.parts;
    }

    public int part(int part, int what) {
        if (part < 0 || part >= court.days.parts || part >= MOST_PARTS) return UNKNOWN;
        switch (what) {
            case 0: return court.days.speakers[part];
            case 1: return court.days.hearers[part];
            case 2: return court.days.digits[part];
            case 3:
                walk.throughDays(court, table);
                return walk.heard[part] ? 1 : 0;
            default: return OUTSIDE;
        }
    }

    public int slips(int sort, int i) {
        if (sort < ECHOES || sort > ANSWERS) return OUTSIDE;
        int saying = pad.readSaying();
        if (saying == SILENCE) return NO;
        int many = table.count(sort, saying);
        if (i == 0) return many;
        if (i < 0 || i > many) return NONE;
        return lengthOf(table.numbered(sort, saying, i));
    }

    // ---- 2 what birds say

    public int bargain() {
        int saying = pad.readSaying();
        if (saying == SILENCE) return NO;
        court.bargain = saying;
        pad.size = 0;
        return lengthOf(saying);
    }

    public int says(int bird, int i) {
        if (!isBird(bird)) return UNKNOWN;
        walk.throughDays(court, table);
        return wordOf(walk.keeps[bird], i);
    }

    // ---- 3 testimony

    public int testify(int bird) {
        if (!isBird(bird)) return UNKNOWN;
        int saying = pad.readSaying();
        if (saying == SILENCE) return NO;
        court.testimony[bird] = saying;
        pad.size = 0;
        forgetHistories();
        return lengthOf(saying);
    }

    public int unsay(int bird) {
        if (!isBird(bird)) return UNKNOWN;
        if (court.testimony[bird] == SILENCE) return 0;
        court.testimony[bird] = SILENCE;
        forgetHistories();
        return 1;
    }

    public int cost() {
        int saying = pad.readSaying();
        if (saying == SILENCE) return NO;
        reckonHistories();
        int slips = histories.costOf(saying);
        return slips < NEVER ? slips : NONE;
    }

    public int likely(int what) {
        if (what < 0 || what > 2 && what < 10 || what >= 10 + LONGEST) return OUTSIDE;
        reckonHistories();
        if (histories.fewest == NEVER) return NONE;
        if (what == 0) return histories.fewest;
        if (what == 1) return histories.likelyMany;
        if (what == 2) return lengthOf(histories.likelyFirst);
        return wordOf(histories.likelyFirst, what - 10);
    }

    public long ways() {
        int saying = pad.readSaying();
        if (saying == SILENCE) return GONE + NO;
        reckonHistories();
        return histories.waysOf(saying);
    }

    public long odds(int part) {
        if (part < 0 || part > 1) return GONE + OUTSIDE;
        reckonHistories();
        if (histories.fewest == NEVER) return GONE + STATE;
        int saying = pad.readSaying();
        if (saying == SILENCE) return GONE + NO;
        long these = histories.waysOf(saying);
        long common = commonDivisor(these, histories.waysOfAll);
        if (common < 1) return GONE + STATE;
        return part == 0 ? these / common : histories.waysOfAll / common;
    }

    public int canBe(int k) {
        if (k < 0 || k > MOST_PARTS) return OUTSIDE;
        reckonHistories();
        return histories.countUpTo(k);
    }

    public int taught(int k) {
        if (k < 0 || k > MOST_PARTS) return OUTSIDE;
        reckonHistories();
        if (histories.fewest <= k) return STATE;
        reckonWithout();
        int birds = 0;
        for (int bird = 0; bird < BIRDS; bird++) {
            if (fewestWithout[bird] <= k) birds |= 1 << bird;
        }
        return birds;
    }

    // ---- 4 telling, draws

    public int few(int n) {
        if (n < 1 || n > 3) return OUTSIDE;
        prepareTelling();
        return telling.fewestBirds();
    }

    public int doubt(int n, int birds) {
        if (n < 1 || n > 3 || birds < 0 || birds > ALL_BIRDS) return OUTSIDE;
        prepareTelling();
        return telling.tells(birds) ? 0 : power(n);
    }

    public int rare(int v) {
        if (v < 1 || v > 99) return OUTSIDE;
        int was = court.rare;
        court.rare = v;
        return was;
    }

    public int years(int seed, int n, int bird, int i) {
        if (!isBird(bird)) return UNKNOWN;
        if (!areYears(seed, n)) return OUTSIDE;
        walk.beginYears(court, seed);
        for (int day = 1; day <= n; day++) walk.throughDrawnDay(court, table, day == 1);
        return wordOf(walk.keeps[bird], i);
    }

    public int lost(int seed, int n, int bird) {
        if (!isBird(bird)) return UNKNOWN;
        if (!areYears(seed, n)) return OUTSIDE;
        walk.beginYears(court, seed);
        for (int day = 1; day <= n; day++) {
            walk.throughDrawnDay(court, table, day == 1);
            if (walk.keeps[bird] != court.bargain) return day;
        }
        return NONE;
    }

    public int image(int n) {
        if (n < 0 || n >= IMAGES) return OUTSIDE;
        images[n].copy(court);
        imageKept[n] = true;
        return 1;
    }

    public int restore(int n) {
        if (n < 0 || n >= IMAGES) return OUTSIDE;
        if (!imageKept[n]) return STATE;
        court.copy(images[n]);
        forgetHistories();
        return 1;
    }

    public int told(int what) {
        if (isBird(what - 10)) return court.sorts[what - 10];
        if (isBird(what - 20)) return wordOf(court.testimony[what - 20], -1);
        switch (what) {
            case 0: return pad.size;
            case 1: return court.days.parts;
            case 2: return lengthOf(court.bargain);
            case 3: return court.rare;
            case 4: return birdsWithSaying(court.testimony);
            case 5:
                walk.throughDays(court, table);
                return birdsWithSaying(walk.keeps);
            default: return OUTSIDE;
        }
    }

    // ---- what the calls share

    private void forgetHistories() {
        historiesFresh = false;
        withoutFresh = false;
    }

    private void reckonHistories() {
        if (historiesFresh) return;
        walk.throughDays(court, table);
        histories.reckon(court, walk.heard, table, NOBODY);
        historiesFresh = true;
    }

    private void reckonWithout() {
        if (withoutFresh) return;
        walk.throughDays(court, table);
        for (int bird = 0; bird < BIRDS; bird++) {
            fewestWithout[bird] = NEVER;
            if (court.testimony[bird] == SILENCE) continue;
            fewerTold.reckon(court, walk.heard, table, bird);
            fewestWithout[bird] = fewerTold.fewest;
        }
        withoutFresh = true;
    }

    private void prepareTelling() {
        walk.throughDays(court, table);
        telling.prepare(court, walk.heard, birdsWithSaying(walk.keeps));
    }

    private static boolean areYears(int seed, int n) {
        return seed >= 0 && seed <= 9999 && n >= 1 && n <= 400;
    }

    private static boolean isBird(int bird) {
        return bird >= 0 && bird < BIRDS;
    }

    private static int birdsWithSaying(int[] sayings) {
        int birds = 0;
        for (int bird = 0; bird < BIRDS && bird < sayings.length; bird++) {
            if (sayings[bird] != SILENCE) birds |= 1 << bird;
        }
        return birds;
    }

    /** 3 to the n, for n words that a SAYING may have. */
    private static int power(int n) {
        return n >= 0 && n < POWERS.length ? POWERS[n] : 1;
    }

    /** The number of the first SAYING of so many words. */
    private static int firstOf(int length) {
        return length >= 0 && length < FIRSTS.length ? FIRSTS[length] : SAYINGS;
    }

    private static int lengthOf(int saying) {
        int length = 0;
        while (length < LONGEST && firstOf(length + 1) <= saying) length++;
        return length;
    }

    /** How many words (i = -1), or the code of the i-th; NONE, where there is none. */
    private static int wordOf(int saying, int i) {
        if (saying == SILENCE) return NONE;
        int length = lengthOf(saying);
        if (i == -1) return length;
        if (i < 0 || i >= length) return NONE;
        int behind = power(length - 1 - i);
        return 'a' + (saying - firstOf(length)) / behind % WORDS;
    }

    private static long commonDivisor(long a, long b) {
        // 200 is far above the 90 or so steps that two longs can need
        for (int step = 0; step < 200 && b != 0; step++) {
            long left = a % b;
            a = b;
            b = left;
        }
        return a;
    }

    /** The SLIPS of every SAYING by every SORT that slips, in their order. */
    private static final class Slips {
        // 1215 left out, 3282 changed, 1215 put in
        private final int[] results = new int[5712];
        private final int[] starts = new int[3 * SAYINGS + 1];
        private int used = 0;

        Slips() {
            for (int sort = DROPS; sort <= JOINS; sort++) {
                for (int saying = 0; saying < SAYINGS; saying++) {
                    int row = (sort - DROPS) * SAYINGS + saying;
                    list(sort, saying, used);
                    starts[row + 1] = used;
                }
            }
        }

        private void list(int sort, int saying, int start) {
            int length = lengthOf(saying);
            if (sort == JOINS && length == LONGEST) return;
            int places = sort == JOINS ? length + 1 : length;
            int words = sort == DROPS ? 1 : WORDS;
            for (int place = 0; place < places; place++) {
                for (int word = 0; word < words; word++) {
                    addUnlike(start, saying, slipped(sort, saying - firstOf(length), length, place, word));
                }
            }
        }

        private void addUnlike(int start, int saying, int slip) {
            if (slip == saying || used >= results.length) return;
            for (int at = start; at < used; at++) {
                if (results[at] == slip) return;
            }
            results[used] = slip;
            used++;
        }

        /** Of a SAYING of that length, whose letters are the digits of a number, what it becomes. */
        private static int slipped(int sort, int letters, int length, int place, int word) {
            if (sort == JOINS) {
                int behind = power(length - place);
                return firstOf(length + 1) + (letters / behind * WORDS + word) * behind + letters % behind;
            }
            int behind = power(length - 1 - place);
            int ahead = letters / (behind * WORDS);
            if (sort == DROPS) return firstOf(length - 1) + ahead * behind + letters % behind;
            return firstOf(length) + (ahead * WORDS + word) * behind + letters % behind;
        }

        private static int rowOf(int sort, int saying) {
            boolean slips = sort >= DROPS && sort <= JOINS && saying >= 0 && saying < SAYINGS;
            return slips ? (sort - DROPS) * SAYINGS + saying : -1;
        }

        int count(int sort, int saying) {
            int row = rowOf(sort, saying);
            return row < 0 ? 0 : starts[row + 1] - starts[row];
        }

        /** The SLIP of that number, or the SAYING itself, if there are not so many. */
        int numbered(int sort, int saying, int number) {
            int row = rowOf(sort, saying);
            if (row < 0 || number < 1 || number > starts[row + 1] - starts[row]) return saying;
            int at = starts[row] + number - 1;
            return at >= 0 && at < results.length ? results[at] : saying;
        }
    }

    /** PARTS, one behind another. */
    private static final class Days {
        private final int[] speakers = new int[MOST_PARTS];
        private final int[] hearers = new int[MOST_PARTS];
        private final int[] digits = new int[MOST_PARTS];
        private int parts = 0;

        void copy(Days other) {
            for (int part = 0; part < MOST_PARTS; part++) {
                speakers[part] = other.speakers[part];
                hearers[part] = other.hearers[part];
                digits[part] = other.digits[part];
            }
            parts = other.parts;
        }

        void add(int speaker, int hearer) {
            if (parts >= MOST_PARTS) return;
            speakers[parts] = speaker;
            hearers[parts] = hearer;
            digits[parts] = 0;
            parts++;
        }

        void setLastDigit(int digit) {
            if (parts >= 1 && parts <= MOST_PARTS) digits[parts - 1] = digit;
        }

        /** Whether, in the PART ahead, this one's speaker was spoken to by this one's hearer. */
        boolean isAnswer(int part) {
            if (part < 1 || part >= MOST_PARTS) return false;
            return speakers[part - 1] == hearers[part] && hearers[part - 1] == speakers[part];
        }
    }

    /** All that an IMAGE keeps. */
    private static final class Court {
        private final int[] sorts = new int[BIRDS];
        private final int[] testimony = {SILENCE, SILENCE, SILENCE, SILENCE, SILENCE, SILENCE};
        private final Days days = new Days();
        private int bargain = 0;
        private int rare = 40;

        void copy(Court other) {
            for (int bird = 0; bird < BIRDS; bird++) {
                sorts[bird] = other.sorts[bird];
                testimony[bird] = other.testimony[bird];
            }
            days.copy(other.days);
            bargain = other.bargain;
            rare = other.rare;
        }
    }

    /** The signs that are said, and how they read. */
    private static final class Pad {
        private static final int BEGIN = 0, HEARER = 1, FALLS_SILENT = 2, DIGIT_OR_BEGIN = 3;

        private final int[] signs = new int[SIGNS];
        private int size = 0;

        boolean add(int sign) {
            if (size < 0 || size >= SIGNS) return false;
            signs[size] = sign;
            size++;
            return true;
        }

        int sayingFault() {
            for (int at = 0; at < size && at < SIGNS; at++) {
                if (at >= LONGEST || signs[at] < 'a' || signs[at] > 'c') return at;
            }
            return NONE;
        }

        /** The SAYING, or SILENCE, if there is a FAULT. */
        int readSaying() {
            if (sayingFault() != NONE) return SILENCE;
            int letters = 0;
            for (int at = 0; at < size && at < LONGEST; at++) letters = letters * WORDS + signs[at] - 'a';
            return firstOf(size) + letters;
        }

        /** THE FAULT as DAYS; what stands ahead of it is read. */
        int readDays(Days into) {
            into.parts = 0;
            int next = BEGIN;
            int speaker = BARGAIN;
            for (int at = 0; at < size && at < SIGNS; at++) {
                int sign = signs[at];
                if (next == HEARER || next == FALLS_SILENT) {
                    int bird = sign - 'A';
                    if (!isBird(bird) || bird == speaker) return at;
                    into.add(speaker, bird);
                    next = next == HEARER ? DIGIT_OR_BEGIN : BEGIN;
                } else if (next == DIGIT_OR_BEGIN && sign >= '1' && sign <= '9') {
                    into.setLastDigit(sign - '0');
                    next = BEGIN;
                } else {
                    speaker = speakerOf(sign);
                    if (speaker == NOBODY || into.parts >= MOST_PARTS) return at;
                    next = speaker == MUTE ? FALLS_SILENT : HEARER;
                }
            }
            return next == HEARER || next == FALLS_SILENT ? size : NONE;
        }

        private static int speakerOf(int sign) {
            if (sign == 'X') return BARGAIN;
            if (sign == 'm') return MUTE;
            return isBird(sign - 'A') ? sign - 'A' : NOBODY;
        }
    }

    /** DAYS done PART by PART: what birds keep, and which PARTS are heard. */
    private static final class Walk {
        private final int[] keeps = new int[BIRDS];
        private final boolean[] heard = new boolean[MOST_PARTS];
        private int silent = 0;
        private int seed = 0;

        void throughDays(Court court, Slips table) {
            forgetAll();
            silent = 0;
            Days days = court.days;
            for (int part = 0; part < days.parts && part < MOST_PARTS; part++) {
                listen(court, part, true);
                if (heard[part]) keep(court, table, part, days.digits[part]);
            }
        }

        void beginYears(Court court, int firstSeed) {
            forgetAll();
            seed = firstSeed;
        }

        void throughDrawnDay(Court court, Slips table, boolean bargainIsSaid) {
            silent = 0;
            for (int part = 0; part < court.days.parts && part < MOST_PARTS; part++) {
                listen(court, part, bargainIsSaid);
                if (heard[part]) keep(court, table, part, draw(court, table, part));
            }
        }

        private void forgetAll() {
            for (int bird = 0; bird < BIRDS; bird++) keeps[bird] = SILENCE;
        }

        /** Says of a PART whether it is heard; a bird that it names falls silent, or is so no more. */
        private void listen(Court court, int part, boolean bargainIsSaid) {
            int speaker = court.days.speakers[part];
            heard[part] = false;
            if (speaker == BARGAIN) {
                heard[part] = bargainIsSaid;
            } else if (speaker == MUTE) {
                silent ^= 1 << court.days.hearers[part];
            } else if (isBird(speaker) && keeps[speaker] != SILENCE && (silent >> speaker & 1) == 0) {
                boolean answers = part > 0 && heard[part - 1] && court.days.isAnswer(part);
                heard[part] = answers || court.sorts[speaker] != ANSWERS;
            }
        }

        /** What is said in a PART, before the hearer's SLIP; the PART is one that is heard. */
        private int saidIn(Court court, int part) {
            int speaker = court.days.speakers[part];
            return isBird(speaker) ? keeps[speaker] : court.bargain;
        }

        private void keep(Court court, Slips table, int part, int slip) {
            int hearer = court.days.hearers[part];
            if (!isBird(hearer)) return;
            keeps[hearer] = table.numbered(court.sorts[hearer], saidIn(court, part), slip);
        }

        /** The number of the SLIP that is drawn; 0, if none is. */
        private int draw(Court court, Slips table, int part) {
            int hearer = court.days.hearers[part];
            int sort = isBird(hearer) ? court.sorts[hearer] : ECHOES;
            if (sort < DROPS || sort > JOINS) return 0;
            nextSeed();
            if (court.rare < 1 || seed % court.rare != 0) return 0;
            nextSeed();
            int many = table.count(sort, saidIn(court, part));
            return many < 1 ? 0 : 1 + seed % many;
        }

        private void nextSeed() {
            seed = (75 * seed + 74) % 65537;
        }
    }

    /**
     * HISTORIES that fit TESTIMONY, told from the end back: of each bird, and of X, for each SAYING that it may keep
     * at that time, the fewest SLIPS by which all that comes of it fits, and in how many ways.
     */
    private static final class Histories {
        private final int[][] costs = new int[BIRDS + 1][SAYINGS];
        private final long[][] counts = new long[BIRDS + 1][SAYINGS];
        private final boolean[] bound = new boolean[BIRDS + 1];
        private int leastCost = 0;
        private long leastCount = 0;
        private int fewest = NEVER;
        private int likelyMany = 0;
        private int likelyFirst = 0;
        private long waysOfAll = 0;

        void reckon(Court court, boolean[] heard, Slips table, int leftOut) {
            for (int speaker = 0; speaker <= BARGAIN; speaker++) free(speaker);
            for (int bird = 0; bird < BIRDS; bird++) {
                if (bird != leftOut && court.testimony[bird] != SILENCE) bind(bird, court.testimony[bird]);
            }
            Days days = court.days;
            for (int part = Math.min(days.parts, heard.length) - 1; part >= 0; part--) {
                if (heard[part]) goBack(days.speakers[part], days.hearers[part], court.sorts, table);
            }
            if (someBirdIsBound()) forbid(BARGAIN);
            sumUp();
        }

        int costOf(int saying) {
            return saying >= 0 && saying < SAYINGS ? costs[BARGAIN][saying] : NEVER;
        }

        long waysOf(int saying) {
            int slips = costOf(saying);
            return slips < NEVER && slips == fewest ? counts[BARGAIN][saying] : 0;
        }

        int countUpTo(int slips) {
            int many = 0;
            for (int saying = 0; saying < SAYINGS; saying++) {
                if (costs[BARGAIN][saying] <= slips) many++;
            }
            return many;
        }

        private void free(int speaker) {
            bound[speaker] = false;
            for (int saying = 0; saying < SAYINGS; saying++) {
                costs[speaker][saying] = 0;
                counts[speaker][saying] = 1;
            }
        }

        private void forbid(int speaker) {
            bound[speaker] = true;
            for (int saying = 0; saying < SAYINGS; saying++) {
                costs[speaker][saying] = NEVER;
                counts[speaker][saying] = 0;
            }
        }

        private void bind(int bird, int saying) {
            forbid(bird);
            if (saying < 0 || saying >= SAYINGS) return;
            costs[bird][saying] = 0;
            counts[bird][saying] = 1;
        }

        /** What comes of the hearer from here on comes of what the speaker keeps; what the hearer kept ends here. */
        private void goBack(int speaker, int hearer, int[] sorts, Slips table) {
            if (speaker < 0 || speaker > BARGAIN || !isBird(hearer) || !bound[hearer]) return;
            for (int saying = 0; saying < SAYINGS; saying++) {
                weigh(hearer, sorts[hearer], saying, table);
                costs[speaker][saying] = Math.min(NEVER, costs[speaker][saying] + leastCost);
                counts[speaker][saying] *= leastCount;
            }
            bound[speaker] = true;
            free(hearer);
        }

        private void weigh(int hearer, int sort, int said, Slips table) {
            leastCost = costs[hearer][said];
            leastCount = counts[hearer][said];
            int many = table.count(sort, said);
            for (int number = 1; number <= many; number++) {
                int slip = table.numbered(sort, said, number);
                if (slip < 0 || slip >= SAYINGS) continue;
                int slips = costs[hearer][slip] + 1;
                if (slips > leastCost) continue;
                leastCount = slips < leastCost ? counts[hearer][slip] : leastCount + counts[hearer][slip];
                leastCost = slips;
            }
        }

        /** A bird of whom TESTIMONY is told, and who has heard nothing, is bound at the very beginning still. */
        private boolean someBirdIsBound() {
            for (int bird = 0; bird < BIRDS; bird++) {
                if (bound[bird]) return true;
            }
            return false;
        }

        private void sumUp() {
            fewest = NEVER;
            for (int saying = 0; saying < SAYINGS; saying++) fewest = Math.min(fewest, costs[BARGAIN][saying]);
            likelyMany = 0;
            waysOfAll = 0;
            for (int saying = SAYINGS - 1; saying >= 0 && fewest < NEVER; saying--) {
                if (costs[BARGAIN][saying] != fewest) continue;
                likelyMany++;
                likelyFirst = saying;
                waysOfAll += counts[BARGAIN][saying];
            }
        }
    }

    /**
     * Which birds TELL a BARGAIN. One SLIP in a PART makes all birds that say what comes of that PART say the same
     * other SAYING; the rest say the BARGAIN. So two BARGAINS can come to the same SAYINGS of a set just if
     * - nobody in the set has heard anything, or
     * - one SLIP comes to the whole set: two BARGAINS that differ in one word can be brought together by leaving
     *   that word out, by changing it, or by putting the other's word beside it; or
     * - two PARTS by which a word is changed come to the set's two halves: one half says the one BARGAIN then, and
     *   the other half the other.
     * All three bring each BARGAIN into DOUBT or none, however many words it has.
     */
    private static final class Telling {
        private final int[] reached = new int[MOST_PARTS];
        private final int[] slipSorts = new int[MOST_PARTS];
        private final int[] reachedLater = new int[BIRDS];
        private int parts = 0;
        private int hearing = 0;

        void prepare(Court court, boolean[] heard, int birdsThatHeard) {
            hearing = birdsThatHeard;
            parts = Math.min(court.days.parts, MOST_PARTS);
            for (int bird = 0; bird < BIRDS; bird++) reachedLater[bird] = 1 << bird;
            for (int part = parts - 1; part >= 0; part--) {
                reached[part] = 0;
                slipSorts[part] = ECHOES;
                if (part < heard.length && heard[part]) goBack(court, part);
            }
        }

        private void goBack(Court court, int part) {
            int speaker = court.days.speakers[part];
            int hearer = court.days.hearers[part];
            if (!isBird(hearer)) return;
            reached[part] = reachedLater[hearer];
            slipSorts[part] = court.sorts[hearer];
            reachedLater[hearer] = 0;
            if (isBird(speaker)) reachedLater[speaker] |= reached[part];
        }

        boolean tells(int birds) {
            int set = birds & hearing;
            if (set == 0) return false;
            for (int part = 0; part < parts; part++) {
                if (slipsIn(part) && (set & ~reached[part]) == 0) return false;
                if (slipSorts[part] == CHANGES && halves(set, part)) return false;
            }
            return true;
        }

        /** The set of fewest birds, the least of these; NONE, if not even all TELL. */
        int fewestBirds() {
            int best = NONE;
            for (int birds = 1; birds <= ALL_BIRDS; birds++) {
                boolean fewer = best == NONE || Integer.bitCount(birds) < Integer.bitCount(best);
                if (fewer && tells(birds)) best = birds;
            }
            return best;
        }

        private boolean slipsIn(int part) {
            return slipSorts[part] >= DROPS && slipSorts[part] <= JOINS;
        }

        private boolean halves(int set, int part) {
            int rest = set & ~reached[part];
            for (int other = 0; other < part; other++) {
                if (slipSorts[other] == CHANGES && (set & reached[other]) == rest) return true;
            }
            return false;
        }
    }
}
