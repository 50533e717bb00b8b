import java.util.Arrays;

/**
 * Letters that a postman reads aloud from the end, at the door, and those who listen to them.
 *
 * Every row is made by the constructor and used again, since all calls of a run share one room.
 */
public final class ReadBackwards {
    public static final int NONE = -1, UNKNOWN = -101, OUTSIDE = -102, STATE = -103, FULL = -104;

    private static final int YES = 0, NO = 1, NOT = 2, UNLESS = 3, DEAR = 4, PAUSE = 5;
    private static final int VOCABULARY = 6;

    private static final int LISTENER = 0, WIDOW = 1, DEAF = 2, HASTY = 3, BRIDE = 4;
    private static final int KINDS = 5;
    private static final int NOBODY = -1;

    private static final int MOST_WORDS = 9;
    private static final int MOST_SNOW = 9;
    private static final int MOST_SIGNS = 12;
    private static final int MOST_CODE = 126;
    private static final int MOST_LISTENERS = 4;
    private static final int MOST_TOLD = 6;
    private static final int MOST_WRITES = 20;
    private static final int LONGEST_WRITTEN = 5;
    private static final int WRITTEN_VALUE = 3;
    private static final int FIRST_WRITTEN_WORD = 10;
    private static final int MOST_UNKNOWN_WORDS = 5;
    private static final int REST_VALUE = 20;
    private static final int MOST_DAYS = 40;

    private static final int VALUE_SHIFT = 100;
    private static final int SUM_SHIFT = 1000;

    private final Page page = new Page();
    private final Letter current = new Letter();
    private final Listeners audience = new Listeners();
    private final Told told = new Told();
    private final Image kept = new Image();
    private final Reading reading = new Reading();
    private final Writing writing = new Writing();
    private final Endings endings = new Endings();
    private final Days someDays = new Days();
    private final int[] hearers = new int[MOST_WORDS + 1];
    private int changed;
    private int taken;
    private int written;

    public ReadBackwards() {
    }

    // ---- the letter

    public int letter(int code) {
        if (code < 1 || code > MOST_CODE) return OUTSIDE;
        if (page.size >= MOST_SIGNS) return FULL;
        page.add(code);
        return page.size;
    }

    public int blank() {
        int had = page.size;
        page.clear();
        return had;
    }

    public int fault() {
        return page.firstFault();
    }

    public int take() {
        if (!page.isLetter()) return STATE;
        page.copyTo(current);
        page.clear();
        audience.size = 0;
        told.clear();
        // Changes are counted of THE LETTER's own WORDS, and none of the new ones was changed yet.
        changed = 0;
        // An IMAGE of the LETTER that is gone can't be gone on from.
        kept.holds = false;
        taken++;
        return current.size;
    }

    public int word(int place, int what) {
        if (!current.has(place)) return UNKNOWN;
        if (what < 0 || what > 2) return OUTSIDE;
        if (what == 0) return current.wordAt(place);
        boolean fromTop = what == 2;
        reading.begin(NOBODY);
        reading.hearSome(current, fromTop ? place + 1 : current.size - place, fromTop);
        return reading.value + VALUE_SHIFT;
    }

    public int change(int place, int word) {
        if (!current.has(place)) return UNKNOWN;
        if (!isWord(word)) return OUTSIDE;
        int was = current.wordAt(place);
        current.put(place, word);
        changed++;
        return was;
    }

    public int snow(int snow) {
        if (snow < 1 || snow > MOST_SNOW) return OUTSIDE;
        if (noLetter()) return STATE;
        int was = current.snow;
        current.snow = snow;
        return was;
    }

    // ---- listeners

    public int listener(int kind) {
        if (!isKind(kind)) return OUTSIDE;
        if (noLetter()) return STATE;
        if (audience.size >= MOST_LISTENERS) return FULL;
        audience.add(kind);
        return audience.size - 1;
    }

    public int about(int listener, int what) {
        if (!audience.has(listener)) return UNKNOWN;
        if (what < 0 || what > 6) return OUTSIDE;
        int kind = audience.kindOf(listener);
        if (what == 0) return kind;
        boolean fromTop = what > 3;
        reading.readTo(kind, current, fromTop);
        int part = fromTop ? what - 3 : what;
        if (part == 1) return reading.heard;
        if (part == 2) return reading.value + VALUE_SHIFT;
        return reading.shut ? 1 : 0;
    }

    public int as(int listener, int kind) {
        if (!audience.has(listener)) return UNKNOWN;
        if (!isKind(kind)) return OUTSIDE;
        return isSuch(audience.kindOf(listener), kind) ? listener : NONE;
    }

    // ---- what could be

    public int write(int kind, int end, int top, int what) {
        if (!isKind(kind) || !isWrittenValue(end) || !isWrittenValue(top)) return OUTSIDE;
        int place = what - FIRST_WRITTEN_WORD;
        boolean asksWord = what >= FIRST_WRITTEN_WORD && place < LONGEST_WRITTEN;
        if (what != 0 && !asksWord) return OUTSIDE;
        if (written >= MOST_WRITES) return STATE;
        written++;
        if (!writing.find(kind, end, top)) return NONE;
        return asksWord ? writing.draft.wordAt(place) : writing.draft.size;
    }

    public int rest(int known, int words, int value) {
        if (known < 0 || known > current.size) return OUTSIDE;
        if (words < 1 || words < known || words > known + MOST_UNKNOWN_WORDS) return OUTSIDE;
        if (value < -REST_VALUE || value > REST_VALUE) return OUTSIDE;
        if (noLetter()) return STATE;
        return endings.howMany(current, known, words, value);
    }

    // ---- what is told

    public int tell(int words, boolean fromTop) {
        if (words < 0 || words > MOST_WORDS) return OUTSIDE;
        if (noLetter()) return STATE;
        if (told.size >= MOST_TOLD) return FULL;
        told.add(kindsThatHear(words, fromTop));
        return told.size;
    }

    public int forget() {
        int was = told.size;
        told.clear();
        return was;
    }

    public int which() {
        return told.possibleKinds();
    }

    public int ask() {
        if (noLetter()) return STATE;
        int kinds = told.possibleKinds();
        if (kinds == 0) return NONE;
        return mostAlike(kinds, true) < mostAlike(kinds, false) ? 1 : 0;
    }

    public int days(int letters, int seed, int what) {
        if (letters < 1 || letters > MOST_DAYS || seed < 0 || what < 0 || what > 2) return OUTSIDE;
        if (audience.size == 0) return STATE;
        someDays.pass(letters, seed, audience, current.snow);
        if (what == 0) return someDays.shut;
        if (what == 1) return someDays.values + SUM_SHIFT;
        return someDays.seed;
    }

    // ---- what is told of all

    public int image() {
        if (noLetter()) return STATE;
        kept.words.copy(current);
        kept.told.copy(told);
        kept.listeners = audience.size;
        kept.changed = changed;
        kept.holds = true;
        return current.size;
    }

    public int restore() {
        if (!kept.holds) return STATE;
        current.copy(kept.words);
        told.copy(kept.told);
        audience.size = kept.listeners;
        changed = kept.changed;
        return current.size;
    }

    public int count(int what) {
        switch (what) {
            case 0: return current.size;
            case 1: return current.snow;
            case 2: return audience.size;
            case 3: return howManyShut();
            case 4: return changed;
            case 5: return told.size;
            case 6: return page.size;
            case 7: return taken;
            case 8: return written;
            default: return OUTSIDE;
        }
    }

    public long digest() {
        long h = 953;
        for (int place = 0; place < current.size; place++) {
            for (int what = 0; what <= 2; what++) h = 31 * h + word(place, what);
        }
        for (int number = 0; number < audience.size; number++) {
            for (int what = 0; what <= 6; what++) h = 31 * h + about(number, what);
        }
        h = 31 * h + which();
        if (!noLetter()) {
            h = 31 * h + ask();
            h = 31 * h + rest(0, 3, 1);
        }
        for (int place = 0; place < page.size; place++) h = 31 * h + page.signAt(place);
        for (int what = 0; what <= 8; what++) h = 31 * h + count(what);
        return h;
    }

    // ---- helpers

    private boolean noLetter() {
        return current.size == 0;
    }

    private int howManyShut() {
        int shut = 0;
        for (int number = 0; number < audience.size; number++) {
            reading.readTo(audience.kindOf(number), current, false);
            if (reading.shut) shut++;
        }
        return shut;
    }

    private int kindsThatHear(int words, boolean fromTop) {
        int kinds = 0;
        for (int kind = 0; kind < KINDS; kind++) {
            reading.readTo(kind, current, fromTop);
            if (reading.heard == words) kinds |= 1 << kind;
        }
        return kinds;
    }

    /** How many of these KINDS are left at worst, when THE LETTER is READ to her this way. */
    private int mostAlike(int kinds, boolean fromTop) {
        Arrays.fill(hearers, 0);
        int most = 0;
        for (int kind = 0; kind < KINDS; kind++) {
            if ((kinds & 1 << kind) == 0) continue;
            reading.readTo(kind, current, fromTop);
            int heard = reading.heard;
            if (heard < 0 || heard >= hearers.length) continue;
            hearers[heard]++;
            most = Math.max(most, hearers[heard]);
        }
        return most;
    }

    private static boolean isWord(int word) {
        return word >= 0 && word < VOCABULARY;
    }

    private static boolean isKind(int kind) {
        return kind >= 0 && kind < KINDS;
    }

    private static boolean isWrittenValue(int value) {
        return value >= -WRITTEN_VALUE && value <= WRITTEN_VALUE;
    }

    private static boolean isSuch(int kind, int asKind) {
        return kind == asKind || asKind == LISTENER || kind == BRIDE && asKind == WIDOW;
    }

    /** THE PAGE: signs by their codes, which may become a LETTER. */
    private static final class Page {
        private static final int MARK = ';';

        private final int[] signs = new int[MOST_SIGNS];
        private int size;

        void add(int code) {
            if (size < 0 || size >= signs.length) return;
            signs[size] = code;
            size++;
        }

        void clear() {
            size = 0;
        }

        int signAt(int place) {
            return place >= 0 && place < size && place < signs.length ? signs[place] : 0;
        }

        int firstFault() {
            int mark = NONE;
            for (int place = 0; place < size; place++) {
                int sign = signAt(place);
                if (!fits(sign, place, mark)) return place;
                if (sign == MARK) mark = place;
            }
            return size;
        }

        boolean isLetter() {
            return size > 2 && signAt(size - 2) == MARK && firstFault() == size;
        }

        void copyTo(Letter letter) {
            letter.clear();
            for (int place = 0; place < size - 2; place++) letter.add(wordOf(signAt(place)));
            letter.snow = signAt(size - 1) - '0';
        }

        private static boolean fits(int sign, int place, int mark) {
            if (mark != NONE) return place == mark + 1 && sign >= '1' && sign <= '9';
            if (sign == MARK) return place > 0;
            return place < MOST_WORDS && wordOf(sign) != NONE;
        }

        private static int wordOf(int sign) {
            switch (sign) {
                case 'y': return YES;
                case 'n': return NO;
                case 't': return NOT;
                case 'u': return UNLESS;
                case 'd': return DEAR;
                case '.': return PAUSE;
                default: return NONE;
            }
        }
    }

    /** WORDS from the TOP on, and SNOW; without WORDS it is none. */
    private static final class Letter {
        private final int[] words = new int[MOST_WORDS];
        private int size;
        private int snow;

        boolean has(int place) {
            return place >= 0 && place < size && place < words.length;
        }

        int wordAt(int place) {
            return place >= 0 && place < size && place < words.length ? words[place] : NONE;
        }

        void put(int place, int word) {
            if (has(place)) words[place] = word;
        }

        void add(int word) {
            if (size < 0 || size >= words.length) return;
            words[size] = word;
            size++;
        }

        void clear() {
            size = 0;
            snow = 0;
        }

        void copy(Letter other) {
            clear();
            for (int place = 0; place < other.size; place++) add(other.wordAt(place));
            snow = other.snow;
        }
    }

    /** One READING: what is behind the WORDS that were READ so far to one of a KIND, or to NOBODY. */
    private static final class Reading {
        private int kind;
        private int value;
        private boolean turned;
        private int pauses;
        private int heard;
        private boolean shut;

        void begin(int listenerKind) {
            kind = listenerKind;
            value = 0;
            turned = false;
            pauses = 0;
            heard = 0;
            shut = false;
        }

        void copy(Reading other) {
            kind = other.kind;
            value = other.value;
            turned = other.turned;
            pauses = other.pauses;
            heard = other.heard;
            shut = other.shut;
        }

        void readTo(int listenerKind, Letter letter, boolean fromTop) {
            begin(listenerKind);
            if (listenerKind == DEAF) hearSome(letter, letter.size, true);
            else hearSome(letter, Math.min(letter.size, letter.snow), fromTop);
        }

        void hearSome(Letter letter, int words, boolean fromTop) {
            for (int read = 0; read < words && !shut; read++) {
                hear(letter.wordAt(fromTop ? read : letter.size - 1 - read));
            }
        }

        void hear(int word) {
            switch (word) {
                case YES: value += turned ? -1 : 1; turned = false; break;
                case NO: value += turned ? 1 : -1; turned = false; break;
                case NOT: turned = !turned; break;
                case UNLESS: value = -value; break;
                case DEAR: value++; break;
                case PAUSE: pauses++; break;
                default: break;
            }
            heard++;
            shut = shutsBehind(word);
        }

        private boolean shutsBehind(int word) {
            if (kind == DEAF || kind == NOBODY) return false;
            if (value < -1) return true;
            if (word == DEAR && (kind == WIDOW || kind == BRIDE)) return true;
            if (pauses >= 2 && kind == HASTY) return true;
            return value > 1 && kind == BRIDE;
        }
    }

    /** Those who listen, by their numbers. */
    private static final class Listeners {
        private final int[] kinds = new int[MOST_LISTENERS];
        private int size;

        boolean has(int number) {
            return number >= 0 && number < size && number < kinds.length;
        }

        int kindOf(int number) {
            return has(number) ? kinds[number] : LISTENER;
        }

        void add(int kind) {
            if (size < 0 || size >= kinds.length) return;
            kinds[size] = kind;
            size++;
        }
    }

    /**
     * What is TOLD, each as bits of the KINDS that would have HEARD so many WORDS: kept so,
     * what THE LETTER becomes later can't change it.
     */
    private static final class Told {
        private static final int ALL_KINDS = (1 << KINDS) - 1;

        private final int[] kinds = new int[MOST_TOLD];
        private int size;

        void add(int kindBits) {
            if (size < 0 || size >= kinds.length) return;
            kinds[size] = kindBits;
            size++;
        }

        void clear() {
            size = 0;
        }

        int kindsAt(int place) {
            return place >= 0 && place < size && place < kinds.length ? kinds[place] : ALL_KINDS;
        }

        int possibleKinds() {
            int possible = ALL_KINDS;
            for (int place = 0; place < size; place++) possible &= kindsAt(place);
            return possible;
        }

        void copy(Told other) {
            clear();
            for (int place = 0; place < other.size; place++) add(other.kindsAt(place));
        }
    }

    /** What image() keeps. */
    private static final class Image {
        private final Letter words = new Letter();
        private final Told told = new Told();
        private int listeners;
        private int changed;
        private boolean holds;
    }

    /** The search for the shortest LETTER that is one VALUE from the END and another from the TOP. */
    private static final class Writing {
        private final Letter draft = new Letter();
        private final Reading fromEnd = new Reading();
        // Place by place what is behind the WORDS ahead of it, so that a new WORD needs one step.
        private final Reading[] fromTop = new Reading[LONGEST_WRITTEN + 1];
        private int kind;
        private int end;
        private int top;

        Writing() {
            for (int place = 0; place < fromTop.length; place++) fromTop[place] = new Reading();
        }

        boolean find(int listenerKind, int endValue, int topValue) {
            kind = listenerKind;
            end = endValue;
            top = topValue;
            draft.clear();
            for (int size = 1; size <= LONGEST_WRITTEN; size++) {
                draft.add(YES);
                if (fromTop[0] != null) fromTop[0].begin(kind);
                if (fillFrom(this, 0)) return true;
            }
            return false;
        }

        /** Tries the WORDS by their numbers, from this place on: the first draft that fits comes first. */
        private static boolean fillFrom(Writing search, int place) {
            if (place >= search.draft.size) return search.fits();
            if (place < 0 || place + 1 >= search.fromTop.length) return false;
            Reading ahead = search.fromTop[place];
            Reading behind = search.fromTop[place + 1];
            if (ahead == null || behind == null) return false;
            for (int word = 0; word < VOCABULARY; word++) {
                behind.copy(ahead);
                behind.hear(word);
                if (behind.shut || !search.canReachTop(behind.value, place + 1)) continue;
                search.draft.put(place, word);
                if (fillFrom(search, place + 1)) return true;
            }
            return false;
        }

        /** A WORD moves the VALUE by 1 or makes it its opposite, so its size moves by 1 at most. */
        private boolean canReachTop(int value, int place) {
            return Math.abs(Math.abs(top) - Math.abs(value)) <= draft.size - place;
        }

        private boolean fits() {
            int last = draft.size;
            if (last < 0 || last >= fromTop.length) return false;
            Reading whole = fromTop[last];
            if (whole == null || whole.value != top) return false;
            fromEnd.begin(kind);
            fromEnd.hearSome(draft, draft.size, kind == DEAF);
            return !fromEnd.shut && fromEnd.value == end;
        }
    }

    /** Counts LETTERS by what is behind their unknown WORDS, not one by one: VALUE, and TURNED or not. */
    private static final class Endings {
        private static final int STATES = 2 * (2 * MOST_UNKNOWN_WORDS + 1);

        private final int[] ways = new int[STATES];
        private final int[] nextWays = new int[STATES];
        private final Reading reading = new Reading();

        int howMany(Letter letter, int known, int words, int value) {
            Arrays.fill(ways, 0);
            reading.begin(NOBODY);
            int start = stateOf(reading);
            if (start >= 0 && start < STATES) ways[start] = 1;
            for (int place = known; place < words; place++) readUnknownWord();
            int sum = 0;
            for (int state = 0; state < STATES; state++) {
                if (ways[state] == 0) continue;
                beginAt(state);
                for (int place = letter.size - known; place < letter.size; place++) {
                    reading.hear(letter.wordAt(place));
                }
                if (reading.value == value) sum += ways[state];
            }
            return sum;
        }

        private void readUnknownWord() {
            Arrays.fill(nextWays, 0);
            for (int state = 0; state < STATES; state++) {
                if (ways[state] == 0) continue;
                for (int word = 0; word < VOCABULARY; word++) {
                    beginAt(state);
                    reading.hear(word);
                    int next = stateOf(reading);
                    if (next >= 0 && next < STATES) nextWays[next] += ways[state];
                }
            }
            System.arraycopy(nextWays, 0, ways, 0, STATES);
        }

        private void beginAt(int state) {
            reading.begin(NOBODY);
            reading.value = state / 2 - MOST_UNKNOWN_WORDS;
            reading.turned = state % 2 == 1;
        }

        private static int stateOf(Reading read) {
            return 2 * (read.value + MOST_UNKNOWN_WORDS) + (read.turned ? 1 : 0);
        }
    }

    /** DAYS as they would be: LETTERS by DRAWS, READ to LISTENERS by DRAWS. */
    private static final class Days {
        private final Letter drawn = new Letter();
        private final Reading reading = new Reading();
        private int seed;
        private int shut;
        private int values;

        void pass(int letters, int firstSeed, Listeners audience, int snow) {
            seed = firstSeed;
            shut = 0;
            values = 0;
            for (int day = 0; day < letters; day++) {
                drawLetter(snow);
                reading.readTo(audience.kindOf(draw(audience.size)), drawn, false);
                if (reading.shut) shut++;
                values += reading.value;
            }
        }

        private void drawLetter(int snow) {
            drawn.clear();
            drawn.snow = snow;
            int size = 1 + draw(MOST_WORDS);
            for (int place = 0; place < size; place++) drawn.add(draw(VOCABULARY));
        }

        private int draw(int bound) {
            seed = (int) ((1103515245L * seed + 12345L) % 2147483648L);
            return bound > 0 ? seed / 65536 % bound : 0;
        }
    }
}
