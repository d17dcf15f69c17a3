/**
 * Two towns with kerbs, drains from kerb to kerb, a level that comes and goes
 * by remainders, and things that lie, drift and are tied.
 *
 * What each call answers is promised in ../shared/DOC.md; words such as tide,
 * level, drain and delay mean here what they mean there.
 */
public final class TwoKerbs {
    public static final int BAD = -1, STATE = -2, FULL = -3, NONE = -9;
    public static final int NO = -1000000;

    private static final int KERBS_MOST = 8;
    private static final int THINGS_MOST = 5;
    private static final int TOWN_MOST = 1;
    private static final int HEIGHT_MOST = 19;
    private static final int DELAY_MOST = 4;
    private static final int MODULO_LEAST = 2;
    private static final int MODULO_MOST = 20;
    private static final int TEXT_MOST = 150;
    private static final int LETTER_MOST = 255;
    private static final int TIDE_MOST = 9999;
    private static final int TIDES_MOST = 99;
    private static final int DRIFTS_MOST = 99999;
    private static final int PAST_MOST = 10;
    private static final int IMAGES = 2;
    private static final int AHEAD_MOST = 400;
    private static final int NOTES_MOST = 6;
    private static final int NOTE_TIDE_MOST = 99;
    private static final int ODDS_TIDES_MOST = 4;
    private static final int ODDS_OF = 10;
    private static final int WEAK_LESS = 3;

    private static final int KERB = 0;
    private static final int BANK = 1;
    private static final int STEPS = 2;
    private static final int CHURCH = 3;
    private static final int BUTCHER = 4;
    private static final int RING = 5;

    private final Text text = new Text();
    private Towns told = new Towns();
    /** What a text is read into, so that a faulty one leaves no trace in what was told. */
    private Towns spare = new Towns();
    private final Now now = new Now();
    private final Past past = new Past();
    private final int[][] images = new int[IMAGES][Now.ROW];
    private final boolean[] kept = new boolean[IMAGES];
    /** What was found: a kerb, a tide. */
    private final Notes found = new Notes();
    /** What was seen: a tide, its level. */
    private final Notes seen = new Notes();
    /** Things that are followed into tides to come; kept, so that no call makes new ones. */
    private final Thing one = new Thing();
    private final Thing two = new Thing();
    private long trace;

    public TwoKerbs() {
    }

    // ---- two towns

    public int type(int letter) {
        if (!isWithin(letter, 0, LETTER_MOST)) {
            return BAD;
        }
        return text.add(letter);
    }

    public int clear() {
        return text.empty();
    }

    public int towns() {
        int items = text.readInto(spare);
        if (items < 0) {
            return items;
        }
        Towns before = told;
        told = spare;
        spare = before;
        text.empty();
        now.begin(told);
        past.lose();
        found.lose();
        seen.lose();
        for (int image = 0; image < IMAGES; image++) {
            kept[image] = false;
        }
        return items;
    }

    public int kerb(int k, int what) {
        if (!told.isKerb(k)) {
            return BAD;
        }
        switch (what) {
            case 0: return told.town[k];
            case 1: return told.height[k];
            case 2: return told.drain[k];
            case 3: return told.delay[k];
            case 4: return now.lyingOn(k, told.things);
            default: return BAD;
        }
    }

    public int thing(int t, int what) {
        if (!told.isThing(t)) {
            return BAD;
        }
        Thing thing = now.things[t];
        switch (what) {
            case 0: return thing.place();
            case 1: return thing.kerb;
            case 2: return thing.left;
            case 3: return thing.tied ? 1 : 0;
            default: return BAD;
        }
    }

    public int now(int what) {
        switch (what) {
            case 0: return now.tide;
            case 1: return told.levelOf(now.tide);
            case 2: return now.drifts;
            case 3: return told.floodedBy(told.levelOf(now.tide));
            case 4: return past.known;
            default: return BAD;
        }
    }

    // ---- what is done

    public int tides(int n) {
        if (!isWithin(n, 1, TIDES_MOST)) {
            return BAD;
        }
        if (now.tide + n > TIDE_MOST) {
            return STATE;
        }
        now.saveTo(past.nextRow());
        int drifted = 0;
        for (int i = 0; i < n; i++) {
            drifted += now.pass(told);
        }
        return drifted;
    }

    public int ties(int t, int is) {
        if (!told.isThing(t) || !isWithin(is, 0, 1)) {
            return BAD;
        }
        Thing thing = now.things[t];
        boolean tied = is == 1;
        if (!thing.lies() || thing.tied == tied) {
            return STATE;
        }
        now.saveTo(past.nextRow());
        thing.tied = tied;
        return now.tiedOf(told.things);
    }

    public int carries(int t, int k) {
        if (!told.isThing(t) || !told.isKerb(k)) {
            return BAD;
        }
        Thing thing = now.things[t];
        if (!thing.lies() || thing.kerb == k || !told.areOfOneTown(thing.kerb, k)) {
            return STATE;
        }
        now.saveTo(past.nextRow());
        int before = thing.kerb;
        thing.kerb = k;
        return before;
    }

    public int undo() {
        if (past.known < 1) {
            return STATE;
        }
        now.loadFrom(past.latestRow());
        return past.known;
    }

    // ---- levels

    public int level(int tide) {
        return isWithin(tide, 0, TIDE_MOST) ? told.levelOf(tide) : BAD;
    }

    public int high(int h) {
        if (!isWithin(h, 0, HEIGHT_MOST)) {
            return BAD;
        }
        for (int n = 0; n < told.modulo; n++) {
            if (told.levelOf(now.tide + n) >= h) {
                return now.tide + n;
            }
        }
        return NONE;
    }

    public int flood(int tide) {
        return isWithin(tide, 0, TIDE_MOST) ? told.floodedBy(told.levelOf(tide)) : BAD;
    }

    // ---- where things come

    public int where(int t, int n) {
        if (!told.isThing(t) || !isWithin(n, 0, AHEAD_MOST)) {
            return BAD;
        }
        one.becomes(now.things[t]);
        for (int i = 0; i < n; i++) {
            one.pass(told, told.levelOf(now.tide + i));
        }
        return one.place();
    }

    public int when(int t, int k) {
        if (!told.isThing(t) || !told.isKerb(k)) {
            return BAD;
        }
        one.becomes(now.things[t]);
        return firstTideOn(one, k);
    }

    public int send(int t, int k, int what) {
        if (!told.isThing(t) || !told.isKerb(k) || !isWithin(what, 0, 1)) {
            return BAD;
        }
        Thing thing = now.things[t];
        if (!thing.lies()) {
            return STATE;
        }
        int best = NONE;
        int soonest = NONE;
        for (int from = 0; from < told.kerbs; from++) {
            if (told.areOfOneTown(thing.kerb, from)) {
                one.lieOn(from);
                int tide = firstTideOn(one, k);
                if (tide != NONE && (soonest == NONE || tide < soonest)) {
                    best = from;
                    soonest = tide;
                }
            }
        }
        return what == 0 ? best : soonest;
    }

    public int meet(int t, int u) {
        if (!told.isThing(t) || !told.isThing(u) || t == u) {
            return BAD;
        }
        one.becomes(now.things[t]);
        two.becomes(now.things[u]);
        for (int n = 0; n <= AHEAD_MOST; n++) {
            if (one.lies() && two.liesOn(one.kerb)) {
                return now.tide + n;
            }
            int level = told.levelOf(now.tide + n);
            one.pass(told, level);
            two.pass(told, level);
        }
        return NONE;
    }

    public int round(int t) {
        if (!told.isThing(t)) {
            return BAD;
        }
        // There are no more ways to be than these, so behind so many tides the thing is on its way round.
        int ways = told.kerbs * DELAY_MOST * told.modulo;
        one.becomes(now.things[t]);
        for (int n = 0; n < ways; n++) {
            one.pass(told, told.levelOf(now.tide + n));
        }
        two.becomes(one);
        for (int n = 1; n <= ways; n++) {
            one.pass(told, told.levelOf(now.tide + ways + n - 1));
            if (one.isAs(two) && told.leftOver(n) == 0) {
                return n;
            }
        }
        return NONE;
    }

    public int odds(int t, int k, int n, int x, int what) {
        if (!told.isThing(t) || !told.isKerb(k) || !isWithin(n, 0, ODDS_TIDES_MOST)
                || !isWithin(x, 0, ODDS_OF) || !isWithin(what, 0, 1)) {
            return BAD;
        }
        int upper = 0;
        for (int weak = 0; weak < 1 << n; weak++) {
            one.becomes(now.things[t]);
            passSomeWeak(one, n, weak);
            if (one.liesOn(k)) {
                int weakTides = Integer.bitCount(weak);
                upper += power(x, weakTides) * power(ODDS_OF - x, n - weakTides);
            }
        }
        int lower = power(ODDS_OF, n);
        return (what == 0 ? upper : lower) / commonDivisor(upper, lower);
    }

    // ---- what was found, seen

    public int found(int k, int tide) {
        if (!told.isKerb(k) || !isWithin(tide, 0, NOTE_TIDE_MOST)) {
            return BAD;
        }
        return found.add(k, tide);
    }

    public int began() {
        int bits = 0;
        for (int k = 0; k < told.kerbs; k++) {
            if (canHaveBegunOn(k)) {
                bits |= 1 << k;
            }
        }
        return bits;
    }

    public int saw(int tide, int v) {
        if (!isWithin(tide, 0, NOTE_TIDE_MOST) || !isWithin(v, 0, HEIGHT_MOST)) {
            return BAD;
        }
        return seen.add(tide, v);
    }

    public int laws(int what) {
        if (!isWithin(what, 0, 1)) {
            return BAD;
        }
        int many = 0;
        int first = NONE;
        for (int step = 0; step < told.modulo; step++) {
            for (int offset = 0; offset < told.modulo; offset++) {
                if (isLaw(step, offset)) {
                    many++;
                    if (first == NONE) {
                        first = 100 * step + offset;
                    }
                }
            }
        }
        return what == 0 ? many : first;
    }

    public int forget() {
        return found.lose() + seen.lose();
    }

    // ---- kinds, images

    public int rate(int kind, int k) {
        if (!told.isKerb(k)) {
            return NO;
        }
        switch (kind) {
            case KERB: return rateAsKerb(k);
            case BANK: return rateAsBank(k);
            case STEPS: return rateAsSteps(k);
            case CHURCH: return rateAsChurch(k);
            case BUTCHER: return rateAsButcher(k);
            case RING: return rateAsRing(k);
            default: return NO;
        }
    }

    public int keep(int image) {
        if (!isWithin(image, 0, IMAGES - 1)) {
            return BAD;
        }
        now.saveTo(images[image]);
        kept[image] = true;
        return now.tide;
    }

    public int back(int image) {
        if (!isWithin(image, 0, IMAGES - 1)) {
            return BAD;
        }
        if (!kept[image]) {
            return STATE;
        }
        now.loadFrom(images[image]);
        past.lose();
        return now.tide;
    }

    public int count(int what) {
        switch (what) {
            case 0: return told.kerbs;
            case 1: return told.things;
            case 2: return told.modulo;
            case 3: return told.step;
            case 4: return told.offset;
            case 5: return found.many;
            case 6: return seen.many;
            case 7: return text.length;
            default: return BAD;
        }
    }

    public long trace() {
        return trace;
    }

    // ---- helpers

    private static boolean isWithin(int number, int least, int most) {
        return number >= least && number <= most;
    }

    private static int power(int base, int exponent) {
        int product = 1;
        for (int i = 0; i < exponent; i++) {
            product *= base;
        }
        return product;
    }

    /** Of two numbers that are not below 0; 1 at least, so that it can always divide. */
    private static int commonDivisor(int a, int b) {
        int larger = a;
        int smaller = b;
        // Two steps halve a number at least, so 64 are more than an int can need.
        for (int i = 0; i < 64 && smaller != 0; i++) {
            int rest = larger % smaller;
            larger = smaller;
            smaller = rest;
        }
        return Math.max(larger, 1);
    }

    /** Follows the thing from now on, till it lies on the kerb: the tide, or NONE. */
    private int firstTideOn(Thing thing, int k) {
        for (int n = 0; n <= AHEAD_MOST; n++) {
            if (thing.liesOn(k)) {
                return now.tide + n;
            }
            thing.pass(told, told.levelOf(now.tide + n));
        }
        return NONE;
    }

    /** Follows the thing n tides from now on; weak has a bit for each of them. */
    private void passSomeWeak(Thing thing, int n, int weak) {
        for (int i = 0; i < n; i++) {
            int less = (weak >> i & 1) == 1 ? WEAK_LESS : 0;
            thing.pass(told, told.levelOf(now.tide + i) - less);
        }
    }

    private boolean canHaveBegunOn(int k) {
        one.lieOn(k);
        for (int tide = 0; tide <= NOTE_TIDE_MOST; tide++) {
            for (int i = 0; i < found.many; i++) {
                if (found.second[i] == tide && !one.liesOn(found.first[i])) {
                    return false;
                }
            }
            one.pass(told, told.levelOf(tide));
        }
        return true;
    }

    private boolean isLaw(int step, int offset) {
        for (int i = 0; i < seen.many; i++) {
            if (told.leftOver(step * seen.first[i] + offset) != seen.second[i]) {
                return false;
            }
        }
        return true;
    }

    private int rateAsKerb(int k) {
        trace += 1;
        return told.height[k];
    }

    private int rateAsBank(int k) {
        trace += 10;
        return rateAsKerb(k) + Integer.bitCount(now.lyingOn(k, told.things));
    }

    private int rateAsSteps(int k) {
        trace += 100;
        return rateAsKerb(k) - told.levelOf(now.tide);
    }

    private int rateAsChurch(int k) {
        trace += 1000;
        return 2 * rateAsBank(k);
    }

    private int rateAsButcher(int k) {
        trace += 10000;
        return rateAsSteps(k) + k;
    }

    private int rateAsRing(int k) {
        trace += 100000;
        return rateAsKerb(k) + told.delay[k];
    }

    /** What a text told: the level's law, the kerbs, and where the things lie at first. */
    private static final class Towns {
        int modulo;
        int step;
        int offset;
        int kerbs;
        int things;
        final int[] town = new int[KERBS_MOST];
        final int[] height = new int[KERBS_MOST];
        final int[] drain = new int[KERBS_MOST];
        final int[] delay = new int[KERBS_MOST];
        final int[] first = new int[THINGS_MOST];

        Towns() {
            reset();
        }

        void reset() {
            setLevel(10, 3, 0);
            kerbs = 0;
            things = 0;
        }

        void setLevel(int newModulo, int newStep, int newOffset) {
            modulo = newModulo;
            step = newStep;
            offset = newOffset;
        }

        boolean hasRoomForKerb() {
            return kerbs < KERBS_MOST;
        }

        boolean hasRoomForThing() {
            return things < THINGS_MOST;
        }

        void addKerb(int newTown, int newHeight) {
            if (hasRoomForKerb()) {
                town[kerbs] = newTown;
                height[kerbs] = newHeight;
                drain[kerbs] = kerbs;
                delay[kerbs] = 1;
                kerbs++;
            }
        }

        void addThing(int k) {
            if (hasRoomForThing()) {
                first[things] = k;
                things++;
            }
        }

        boolean isKerb(int k) {
            return k >= 0 && k < kerbs;
        }

        boolean isThing(int t) {
            return t >= 0 && t < things;
        }

        boolean areOfOneTown(int k, int other) {
            return isKerb(k) && isKerb(other) && town[k] == town[other];
        }

        /** What is left over of a number by the modulo, which is looked at because it divides. */
        int leftOver(int number) {
            return modulo < MODULO_LEAST ? 0 : number % modulo;
        }

        int levelOf(int tide) {
            return leftOver(step * tide + offset);
        }

        boolean isFlooded(int k, int level) {
            return isKerb(k) && height[k] <= level;
        }

        int floodedBy(int level) {
            int bits = 0;
            for (int k = 0; k < kerbs; k++) {
                if (isFlooded(k, level)) {
                    bits |= 1 << k;
                }
            }
            return bits;
        }
    }

    /** A thing: it lies on a kerb, or is under way to it, so many tides more. */
    private static final class Thing {
        int kerb;
        int left;
        boolean tied;

        void lieOn(int k) {
            kerb = k;
            left = 0;
            tied = false;
        }

        void becomes(Thing other) {
            kerb = other.kerb;
            left = other.left;
            tied = other.tied;
        }

        boolean lies() {
            return left == 0;
        }

        boolean liesOn(int k) {
            return lies() && kerb == k;
        }

        boolean isAs(Thing other) {
            return kerb == other.kerb && left == other.left;
        }

        int place() {
            return lies() ? kerb : NONE;
        }

        /** A tide of this level goes by: whether the thing drifts in it. */
        boolean pass(Towns towns, int level) {
            boolean drifts = lies() && !tied && towns.isFlooded(kerb, level);
            if (drifts) {
                left = towns.delay[kerb];
                kerb = towns.drain[kerb];
            }
            if (left > 0) {
                left--;
            }
            return drifts;
        }
    }

    /** How it stands now: all that can be undone and that an image keeps, as a row of numbers. */
    private static final class Now {
        static final int ROW = 2 + 3 * THINGS_MOST;

        int tide;
        int drifts;
        final Thing[] things = new Thing[THINGS_MOST];

        Now() {
            for (int t = 0; t < THINGS_MOST; t++) {
                things[t] = new Thing();
            }
        }

        void begin(Towns towns) {
            tide = 0;
            drifts = 0;
            for (int t = 0; t < towns.things; t++) {
                things[t].lieOn(towns.first[t]);
            }
        }

        /** A tide goes by: how many things drift in it. */
        int pass(Towns towns) {
            int level = towns.levelOf(tide);
            int drifted = 0;
            for (int t = 0; t < towns.things; t++) {
                if (things[t].pass(towns, level)) {
                    drifted++;
                }
            }
            drifts = Math.min(drifts + drifted, DRIFTS_MOST);
            tide++;
            return drifted;
        }

        /** Which of the first so many things lie on a kerb, as bits. */
        int lyingOn(int k, int many) {
            int bits = 0;
            for (int t = 0; t < many; t++) {
                if (things[t].liesOn(k)) {
                    bits |= 1 << t;
                }
            }
            return bits;
        }

        /** How many of the first so many things are tied. */
        int tiedOf(int many) {
            int tied = 0;
            for (int t = 0; t < many; t++) {
                if (things[t].tied) {
                    tied++;
                }
            }
            return tied;
        }

        void saveTo(int[] row) {
            row[0] = tide;
            row[1] = drifts;
            for (int t = 0; t < THINGS_MOST; t++) {
                Thing thing = things[t];
                row[2 + 3 * t] = thing.kerb;
                row[3 + 3 * t] = thing.left;
                row[4 + 3 * t] = thing.tied ? 1 : 0;
            }
        }

        void loadFrom(int[] row) {
            tide = row[0];
            drifts = row[1];
            for (int t = 0; t < THINGS_MOST; t++) {
                Thing thing = things[t];
                thing.kerb = row[2 + 3 * t];
                thing.left = row[3 + 3 * t];
                thing.tied = row[4 + 3 * t] == 1;
            }
        }
    }

    /** What can be undone: the latest rows, in a ring, so that a new one takes the oldest one's room. */
    private static final class Past {
        final int[][] rows = new int[PAST_MOST][Now.ROW];
        int known;
        int next;

        /** The row into which the state goes that can be undone to next. */
        int[] nextRow() {
            int[] row = rows[next];
            next = (next + 1) % PAST_MOST;
            known = Math.min(known + 1, PAST_MOST);
            return row;
        }

        /** The latest row, which is known no more then; there is one. */
        int[] latestRow() {
            next = (next + PAST_MOST - 1) % PAST_MOST;
            known = Math.max(known - 1, 0);
            return rows[next];
        }

        void lose() {
            known = 0;
        }
    }

    /** Pairs of numbers that were told. */
    private static final class Notes {
        final int[] first = new int[NOTES_MOST];
        final int[] second = new int[NOTES_MOST];
        int many;

        /** How many there are then; FULL. */
        int add(int a, int b) {
            if (many >= NOTES_MOST) {
                return FULL;
            }
            first[many] = a;
            second[many] = b;
            many++;
            return many;
        }

        /** How many there were. */
        int lose() {
            int before = many;
            many = 0;
            return before;
        }
    }

    /** The text, and how it is read: token by token; reading stops at the token that is the fault. */
    private static final class Text {
        /** Tokens that are no letter; a letter's token is the letter. */
        static final int END = -1;
        static final int NUMBER = -2;

        final char[] letters = new char[TEXT_MOST];
        int length;
        int place;
        int token;
        int tokenPlace;
        int value;
        boolean isLevelTold;

        /** How many letters there are then; FULL. */
        int add(int letter) {
            if (length >= TEXT_MOST) {
                return FULL;
            }
            letters[length] = (char) letter;
            length++;
            return length;
        }

        /** How many letters there were. */
        int empty() {
            int before = length;
            length = 0;
            return before;
        }

        /** How many items were read; -10 less the fault, and then what stands in towns is of no use. */
        int readInto(Towns towns) {
            towns.reset();
            isLevelTold = false;
            place = 0;
            int items = 0;
            readToken();
            // An item has two letters at least, so this bound is never met.
            while (token != END && items < TEXT_MOST) {
                if (!readItem(towns)) {
                    return -10 - tokenPlace;
                }
                items++;
                readToken();
            }
            return items;
        }

        private boolean readItem(Towns towns) {
            switch (token) {
                case 'm': return !isLevelTold && readLevel(towns) && readItemEnd();
                case 'k': return towns.hasRoomForKerb() && readKerb(towns) && readItemEnd();
                case 'd': return readDrain(towns) && readItemEnd();
                case 't': return towns.hasRoomForThing() && readThing(towns) && readItemEnd();
                default: return false;
            }
        }

        private boolean readLevel(Towns towns) {
            if (!readNumber(MODULO_LEAST, MODULO_MOST)) {
                return false;
            }
            int modulo = value;
            if (!readNumber(0, modulo - 1)) {
                return false;
            }
            int step = value;
            if (!readNumber(0, modulo - 1)) {
                return false;
            }
            towns.setLevel(modulo, step, value);
            isLevelTold = true;
            return true;
        }

        private boolean readKerb(Towns towns) {
            if (!readNumber(0, TOWN_MOST)) {
                return false;
            }
            int town = value;
            if (!readNumber(0, HEIGHT_MOST)) {
                return false;
            }
            towns.addKerb(town, value);
            return true;
        }

        private boolean readDrain(Towns towns) {
            if (!readNumber(0, towns.kerbs - 1)) {
                return false;
            }
            int from = value;
            if (!readNumber(0, towns.kerbs - 1)) {
                return false;
            }
            int to = value;
            if (!readNumber(1, DELAY_MOST)) {
                return false;
            }
            towns.drain[from] = to;
            towns.delay[from] = value;
            return true;
        }

        private boolean readThing(Towns towns) {
            if (!readNumber(0, towns.kerbs - 1)) {
                return false;
            }
            towns.addThing(value);
            return true;
        }

        private boolean readItemEnd() {
            readToken();
            return token == ';';
        }

        /** Whether the next token is a number within these bounds; it stands in value then. */
        private boolean readNumber(int least, int most) {
            readToken();
            return token == NUMBER && isWithin(value, least, most);
        }

        private void readToken() {
            while (place < length && letters[place] == ' ') {
                place++;
            }
            tokenPlace = place;
            if (place >= length) {
                token = END;
            } else if (isDigit(letters[place])) {
                token = NUMBER;
                value = readDigits();
            } else {
                token = letters[place];
                place++;
            }
        }

        /** The number that begins here; -1, which is never within bounds, if it is not a fit one. */
        private int readDigits() {
            int begin = place;
            int number = 0;
            // A row of digits that an int can't hold is not a fit number, so it may wrap around.
            while (place < length && isDigit(letters[place])) {
                number = 10 * number + letters[place] - '0';
                place++;
            }
            int digits = place - begin;
            boolean isFit = digits == 1 || digits == 2 && number > 9;
            return isFit ? number : -1;
        }

        private static boolean isDigit(char letter) {
            return letter >= '0' && letter <= '9';
        }
    }
}
