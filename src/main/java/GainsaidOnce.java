/** The town whose crier must be contradicted just once at each corner. */
public final class GainsaidOnce {
    public static final int NONE = -1, UNKNOWN = -1000000001, OUTSIDE = -1000000002, NOT = -1000000003, FULL = -1000000004;

    private static final int MOST_LETTERS = 230;
    private static final int MOST_CORNERS = 8;
    private static final int MOST_HEARERS = 9;
    private static final int MOST_DEEDS = 30;
    private static final int MOST_SEEN = 6;
    private static final int MOST_ENTRIES = 20;
    private static final int MOST_COUNTED = 9000;
    private static final int MOST_DRIFT = 20;
    private static final int ALL_DECREES = 256;
    private static final int SAYS_NOTHING = 8;
    private static final int BLANK = 32;
    private static final int HOW_MANY = -1;
    private static final int IN_SHORT = -2;
    private static final long BILLION = 1000000000L;
    private static final long GREATEST_SEED = 2147483647L;

    /** All sets of at most two of nine, the fewest first, then rising. */
    private static final int[] FEW = {
        0,
        1, 2, 4, 8, 16, 32, 64, 128, 256,
        3,
        5, 6,
        9, 10, 12,
        17, 18, 20, 24,
        33, 34, 36, 40, 48,
        65, 66, 68, 72, 80, 96,
        129, 130, 132, 136, 144, 160, 192,
        257, 258, 260, 264, 272, 288, 320, 384
    };

    private final Reader reader;
    private final Town ring;
    private final Town draft;
    private final State now;
    private final Past past;
    private final Image[] images;
    private final Crier crier;
    private final Trials trials;
    private final Witnesses witnesses;
    private final Row book;
    private final Draws draws;
    private int faultLetter;

    public GainsaidOnce() {
        reader = new Reader();
        ring = new Town();
        draft = new Town();
        now = new State();
        past = new Past();
        images = new Image[] {new Image(), new Image()};
        crier = new Crier(ring, now);
        trials = new Trials(ring, now, crier);
        witnesses = new Witnesses(ring, crier);
        book = new Row(MOST_ENTRIES);
        draws = new Draws();
        faultLetter = NONE;
    }

    // ---- the town

    public int feed(int letter) {
        if (letter < 0 || letter > 255) {
            return OUTSIDE;
        }
        return reader.letters.add(letter);
    }

    public int town() {
        int number = reader.readInto(draft);
        faultLetter = reader.faultAt;
        reader.letters.clear();
        if (number != 0) {
            return -10 - number;
        }
        ring.become(draft);
        now.begin(ring);
        past.forget();
        forgetImages();
        witnesses.forget();
        book.clear();
        return ring.corners;
    }

    public int fault() {
        return faultLetter;
    }

    public int told(int what) {
        switch (what) {
            case 0: return ring.clauses;
            case 1: return ring.corners;
            case 2: return ring.hearers;
            case 3: return reader.letters.count;
            case 4: return now.rounds;
            case 5: return now.months;
            case 6: return now.law;
            case 7: return now.holds;
            case 8: return now.hoarse;
            case 9: return now.keptIn;
            case 10: return now.colds;
            case 11: return witnesses.decrees.count;
            case 12: return book.count;
            case 13: return past.count;
            default: return OUTSIDE;
        }
    }

    public int hearer(int h, int what) {
        if (!ring.hasHearer(h)) {
            return UNKNOWN;
        }
        switch (what) {
            case 0: return at(now.places, h);
            case 1: return at(ring.pinches, h);
            case 2: return at(ring.sayings, h);
            case 3: return bit(now.hoarse, h);
            case 4: return bit(now.keptIn, h);
            default: return OUTSIDE;
        }
    }

    public int corner(int k, int what) {
        if (!ring.hasCorner(k)) {
            return UNKNOWN;
        }
        switch (what) {
            case 0: return at(ring.beers, k);
            case 1: return bit(now.colds, k);
            case 2: return now.standingAt(k, ring.hearers);
            default: return OUTSIDE;
        }
    }

    // ---- deeds

    public int cry(int decree, int k, int way) {
        int refusal = roundRefusal(decree, k, way);
        if (refusal != 0) {
            return refusal;
        }
        if (now.rounds > MOST_COUNTED) {
            return FULL;
        }
        past.remember(now);
        sendCrier(decree, k, way);
        return now.law;
    }

    public int month() {
        if (!ring.stands()) {
            return NOT;
        }
        if (now.months > MOST_COUNTED) {
            return FULL;
        }
        int hoarseOnes = Integer.bitCount(now.hoarse);
        past.remember(now);
        now.passMonth();
        return hoarseOnes;
    }

    public int keepIn(int h, boolean is) {
        if (!ring.hasHearer(h)) {
            return UNKNOWN;
        }
        int was = bit(now.keptIn, h);
        past.remember(now);
        now.keptIn = withBit(now.keptIn, h, is);
        return was;
    }

    public int move(int h, int k) {
        if (!ring.hasHearer(h) || !ring.hasCorner(k)) {
            return UNKNOWN;
        }
        int from = at(now.places, h);
        past.remember(now);
        put(now.places, h, k);
        return from;
    }

    public int cold(int k, boolean is) {
        if (!ring.hasCorner(k)) {
            return UNKNOWN;
        }
        int was = bit(now.colds, k);
        past.remember(now);
        now.colds = withBit(now.colds, k, is);
        return was;
    }

    public int drift(int n) {
        if (n < 1 || n > MOST_DRIFT) {
            return OUTSIDE;
        }
        if (!ring.stands()) {
            return NOT;
        }
        if (now.rounds > MOST_COUNTED || now.months > MOST_COUNTED) {
            return FULL;
        }
        for (int i = 0; i < n; i++) {
            driftOneMonth();
        }
        return now.law;
    }

    public int undo(int n) {
        if (n < 1 || n > MOST_DEEDS) {
            return OUTSIDE;
        }
        if (n > past.count) {
            return NOT;
        }
        past.takeBack(n, now);
        return now.rounds;
    }

    // ---- tried

    public int would(int decree, int k, int way, int what) {
        int refusal = triedRefusal(decree, k, way, what, 2);
        if (refusal != 0) {
            return refusal;
        }
        crier.start(decree, 0, 0);
        crier.goRound(k, way);
        if (what == 0) {
            return crier.decree;
        }
        return what == 1 ? crier.holds : crier.spoke;
    }

    public int bestRound(int decree, int must, int what) {
        if (!ring.allows(decree) || !ring.allows(must)) {
            return UNKNOWN;
        }
        if (what < 0 || what > 1) {
            return OUTSIDE;
        }
        int found = trials.findBestRound(decree, must);
        if (found == NONE) {
            return NONE;
        }
        return what == 0 ? Trials.startOf(found) : Trials.setOf(found);
    }

    public int began(int law, int k, int way, int i) {
        int refusal = roundRefusal(law, k, way);
        if (refusal != 0) {
            return refusal;
        }
        trials.gatherBeginnings(law, k, way);
        if (i == HOW_MANY) {
            return trials.beginnings.count;
        }
        if (i == IN_SHORT) {
            return trials.sureClauses();
        }
        return trials.beginnings.get(i);
    }

    public int passed() {
        return trials.passableCorners();
    }

    public int hired(int decree, int k, int way, int what) {
        int refusal = triedRefusal(decree, k, way, what, 1);
        if (refusal != 0) {
            return refusal;
        }
        int liars = trials.findLiars(decree, k, way);
        if (liars == NONE || what == 1) {
            return liars;
        }
        return ring.beerOf(liars);
    }

    public int spoilt(int decree, int k, int way, int what) {
        int refusal = triedRefusal(decree, k, way, what, 1);
        if (refusal != 0) {
            return refusal;
        }
        int whom = trials.findVictim(decree, k, way);
        if (what == 1) {
            return whom;
        }
        return trials.countHolding(decree, k, way, setOfOne(whom));
    }

    public int odds(int n, int q) {
        if (n < 0 || n > 60 || q < 0 || q > 100) {
            return OUTSIDE;
        }
        long left = BILLION;
        int times = ring.corners * n;
        for (int i = 0; i < times; i++) {
            left = left * (100 - q) / 100;
        }
        return (int) left;
    }

    // ---- what was seen

    public int see(int decree, int k, int spoke) {
        if (!ring.allows(decree) || !ring.hasCorner(k)) {
            return UNKNOWN;
        }
        if (spoke < 0 || spoke > MOST_HEARERS) {
            return OUTSIDE;
        }
        return witnesses.add(decree, k, spoke);
    }

    public int behind(int i) {
        witnesses.gatherSuspects();
        if (i == HOW_MANY) {
            return witnesses.suspects.count;
        }
        if (i == IN_SHORT) {
            return witnesses.bestParting();
        }
        return witnesses.suspects.get(i);
    }

    public int write(int law) {
        if (law < 0 || law >= ALL_DECREES) {
            return OUTSIDE;
        }
        return book.add(law);
    }

    public int judge() {
        for (int i = 0; i < book.count; i++) {
            if (book.get(i) != now.law) {
                return i;
            }
        }
        return NONE;
    }

    public int tear() {
        int both = witnesses.decrees.count + book.count;
        witnesses.forget();
        book.clear();
        return both;
    }

    // ---- images

    public int seed(int v) {
        if (v < 0) {
            return OUTSIDE;
        }
        int was = draws.value;
        draws.value = v;
        return was;
    }

    public int keep(int i) {
        Image image = imageOf(i);
        if (image == null) {
            return UNKNOWN;
        }
        image.take(now, draws.value);
        past.forget();
        return 1;
    }

    public int goBack(int i) {
        Image image = imageOf(i);
        if (image == null) {
            return UNKNOWN;
        }
        if (!image.isTaken) {
            return NOT;
        }
        now.become(image.state);
        draws.value = image.seedThen;
        past.forget();
        return 1;
    }

    // ---- what the calls share

    private int roundRefusal(int decree, int k, int way) {
        if (!ring.allows(decree) || !ring.hasCorner(k)) {
            return UNKNOWN;
        }
        return way < 0 || way > 1 ? OUTSIDE : 0;
    }

    private int triedRefusal(int decree, int k, int way, int what, int mostWhat) {
        int refusal = roundRefusal(decree, k, way);
        if (refusal != 0) {
            return refusal;
        }
        return what < 0 || what > mostWhat ? OUTSIDE : 0;
    }

    private void sendCrier(int decree, int k, int way) {
        crier.start(decree, 0, 0);
        crier.goRound(k, way);
        now.rounds++;
        now.law = crier.decree;
        now.holds = crier.holds;
        now.hoarse = crier.hoarse;
    }

    private void driftOneMonth() {
        past.remember(now);
        if (ring.corners > 0) {
            int decree = draws.next(ALL_DECREES) & ring.clauses;
            int k = draws.next(ring.corners);
            int way = draws.next(2);
            sendCrier(decree, k, way);
        }
        now.passMonth();
    }

    private Image imageOf(int i) {
        return i >= 0 && i < images.length ? images[i] : null;
    }

    private void forgetImages() {
        for (int i = 0; i < images.length; i++) {
            Image image = images[i];
            if (image != null) {
                image.isTaken = false;
            }
        }
    }

    private static int at(int[] row, int i) {
        return i >= 0 && i < row.length ? row[i] : 0;
    }

    private static void put(int[] row, int i, int value) {
        if (i >= 0 && i < row.length) {
            row[i] = value;
        }
    }

    private static void copyRow(int[] from, int[] to) {
        for (int i = 0; i < from.length && i < to.length; i++) {
            to[i] = from[i];
        }
    }

    private static int bit(int set, int i) {
        return (set >> i) & 1;
    }

    private static boolean has(int set, int i) {
        return ((set >> i) & 1) == 1;
    }

    private static int withBit(int set, int i, boolean is) {
        return is ? set | (1 << i) : set & ~(1 << i);
    }

    private static int setOfOne(int i) {
        return i < 0 ? 0 : 1 << i;
    }

    private static int firstOf(int count) {
        return (1 << count) - 1;
    }

    /** What the text told: it stays till another text is taken. */
    private static final class Town {
        private int clauses;
        private int corners;
        private int hearers;
        private int firstColds;
        private final int[] beers = new int[MOST_CORNERS];
        private final int[] firstPlaces = new int[MOST_HEARERS];
        private final int[] pinches = new int[MOST_HEARERS];
        private final int[] sayings = new int[MOST_HEARERS];

        void clear() {
            clauses = 0;
            corners = 0;
            hearers = 0;
            firstColds = 0;
        }

        void become(Town other) {
            clauses = other.clauses;
            corners = other.corners;
            hearers = other.hearers;
            firstColds = other.firstColds;
            copyRow(other.beers, beers);
            copyRow(other.firstPlaces, firstPlaces);
            copyRow(other.pinches, pinches);
            copyRow(other.sayings, sayings);
        }

        void addCorner(int beer, boolean isCold) {
            put(beers, corners, beer);
            firstColds = withBit(firstColds, corners, isCold);
            corners++;
        }

        void addHearer(int place, int pinch, int saying) {
            put(firstPlaces, hearers, place);
            put(pinches, hearers, pinch);
            put(sayings, hearers, saying == SAYS_NOTHING ? NONE : saying);
            hearers++;
        }

        // A told town has at least one clause, so without clauses there is none.
        boolean stands() {
            return clauses != 0;
        }

        boolean hasCorner(int k) {
            return k >= 0 && k < corners;
        }

        boolean hasHearer(int h) {
            return h >= 0 && h < hearers;
        }

        boolean allows(int decree) {
            return (decree & ~clauses) == 0;
        }

        int beerOf(int cornerSet) {
            int sum = 0;
            for (int k = 0; k < corners; k++) {
                sum += has(cornerSet, k) ? at(beers, k) : 0;
            }
            return sum;
        }
    }

    /** The text, letter by letter, and how it is read. */
    private static final class Reader {
        private final Row letters = new Row(MOST_LETTERS);
        private int here;
        private int faultNumber;
        private int faultAt = NONE;

        int readInto(Town draft) {
            here = 0;
            faultNumber = 0;
            faultAt = NONE;
            draft.clear();
            skipBlanks();
            for (int n = 0; n < MOST_LETTERS && here < letters.count && faultNumber == 0; n++) {
                readClause(draft);
                skipBlanks();
            }
            return faultNumber;
        }

        private void readClause(Town draft) {
            int word = letterHere();
            int number = wordFault(draft, word);
            if (number != 0) {
                blame(number, here);
                return;
            }
            here++;
            if (word == 't') {
                readClauses(draft);
            } else if (word == 'c') {
                readCorner(draft);
            } else {
                readHearer(draft);
            }
        }

        private static int wordFault(Town draft, int word) {
            if (!draft.stands()) {
                return word == 't' ? 0 : 1;
            }
            switch (word) {
                case 't': return 3;
                case 'c': return draft.corners < MOST_CORNERS ? 0 : 3;
                case 'h': return draft.hearers < MOST_HEARERS ? 0 : 3;
                default: return 1;
            }
        }

        private void readClauses(Town draft) {
            int clauses = readNumber(1, 255);
            readEnd();
            if (faultNumber == 0) {
                draft.clauses = clauses;
            }
        }

        private void readCorner(Town draft) {
            int beer = readNumber(0, 99);
            int isCold = readNumber(0, 1);
            readEnd();
            if (faultNumber == 0) {
                draft.addCorner(beer, isCold == 1);
            }
        }

        private void readHearer(Town draft) {
            int place = readNumber(0, draft.corners - 1);
            int pinch = readNumber(0, 255);
            int saying = readNumber(0, SAYS_NOTHING);
            readEnd();
            if (faultNumber == 0) {
                draft.addHearer(place, pinch, saying);
            }
        }

        private int readNumber(int least, int most) {
            skipBlanks();
            int first = here;
            int value = 0;
            for (int n = 0; n < MOST_LETTERS && isFigure(letterHere()); n++) {
                // Past three figures the value no longer matters, and would run over.
                value = n < 3 ? value * 10 + letterHere() - '0' : value;
                here++;
            }
            int figures = here - first;
            if (figures == 0) {
                blame(1, first);
            } else if (figures > 3 || value < least || value > most) {
                blame(2, first);
            }
            return value;
        }

        private void readEnd() {
            skipBlanks();
            if (letterHere() != ';') {
                blame(1, here);
            }
            here++;
        }

        private void skipBlanks() {
            for (int n = 0; n < MOST_LETTERS && letterHere() == BLANK; n++) {
                here++;
            }
        }

        /** The end of the text is no letter: NONE. */
        private int letterHere() {
            return letters.get(here);
        }

        private static boolean isFigure(int letter) {
            return letter >= '0' && letter <= '9';
        }

        // What is read behind a fault may seem at fault by it, so the first one stays.
        private void blame(int number, int letter) {
            if (faultNumber == 0) {
                faultNumber = number;
                faultAt = letter;
            }
        }
    }

    /** All that deeds change, and undoing and images bring back. */
    private static final class State {
        private int rounds;
        private int months;
        private int law = NONE;
        private int holds;
        private int hoarse;
        private int keptIn;
        private int colds;
        private final int[] places = new int[MOST_HEARERS];

        void begin(Town told) {
            rounds = 0;
            months = 0;
            law = NONE;
            holds = 0;
            hoarse = 0;
            keptIn = 0;
            colds = told.firstColds;
            copyRow(told.firstPlaces, places);
        }

        void become(State other) {
            rounds = other.rounds;
            months = other.months;
            law = other.law;
            holds = other.holds;
            hoarse = other.hoarse;
            keptIn = other.keptIn;
            colds = other.colds;
            copyRow(other.places, places);
        }

        void passMonth() {
            hoarse = 0;
            months++;
        }

        int standingAt(int k, int hearers) {
            int set = 0;
            for (int h = 0; h < hearers; h++) {
                if (at(places, h) == k) {
                    set |= 1 << h;
                }
            }
            return set;
        }
    }

    /** A crying from the present state on; the state itself is left as it is. */
    private static final class Crier {
        private final Town ring;
        private final State now;
        private int silenced;
        private int liars;
        private int decree;
        private int holds;
        private int spoke;
        private int hoarse;

        Crier(Town ring, State now) {
            this.ring = ring;
            this.now = now;
        }

        void start(int firstDecree, int keptBesides, int liarSet) {
            decree = firstDecree;
            silenced = now.keptIn | keptBesides;
            liars = liarSet;
            holds = 0;
            spoke = 0;
            hoarse = now.hoarse;
        }

        void goRound(int k, int way) {
            for (int i = 0; i < ring.corners; i++) {
                readAt(cornerOf(k, way, i));
            }
        }

        boolean holdsAllRound(int k, int way) {
            boolean isLaw = true;
            for (int i = 0; i < ring.corners && isLaw; i++) {
                isLaw = readAt(cornerOf(k, way, i));
            }
            return isLaw;
        }

        boolean readAt(int k) {
            int speakers = speakersAt(k, silenced | hoarse);
            int liarsHere = decree != 0 ? bit(liars, k) : 0;
            if (speakers == 0 && liarsHere == 0 && has(now.colds, k)) {
                speakers = speakersAt(k, silenced);
            }
            int count = Integer.bitCount(speakers) + liarsHere;
            spoke += count;
            hoarse |= speakers;
            if (count % 2 == 1) {
                compromise(speakers);
                holds |= 1 << k;
                return true;
            }
            if (count != 0) {
                decree = ring.clauses & ~decree;
            }
            return false;
        }

        boolean canKeepIn(int set) {
            return (set & ~firstOf(ring.hearers)) == 0 && (set & now.keptIn) == 0;
        }

        private int cornerOf(int k, int way, int step) {
            int corner = way == 1 ? k + step : k - step;
            if (corner >= ring.corners) {
                return corner - ring.corners;
            }
            return corner < 0 ? corner + ring.corners : corner;
        }

        private int speakersAt(int k, int silent) {
            int speakers = 0;
            for (int h = 0; h < ring.hearers; h++) {
                if (at(now.places, h) == k && !has(silent, h) && (at(ring.pinches, h) & decree) != 0) {
                    speakers |= 1 << h;
                }
            }
            return speakers;
        }

        private void compromise(int speakers) {
            // Without a hearer it was the liar, whom every clause pinches and who says none instead.
            if (speakers == 0) {
                decree &= ~Integer.lowestOneBit(decree);
                return;
            }
            int first = Integer.numberOfTrailingZeros(speakers);
            decree &= ~Integer.lowestOneBit(decree & at(ring.pinches, first));
            decree |= setOfOne(at(ring.sayings, first)) & ring.clauses;
        }
    }

    /** What is sought by trying every way. */
    private static final class Trials {
        private static final int STARTS = 2 * MOST_CORNERS;

        private final Town ring;
        private final State now;
        private final Crier crier;
        private final Row beginnings = new Row(ALL_DECREES);

        Trials(Town ring, State now, Crier crier) {
            this.ring = ring;
            this.now = now;
            this.crier = crier;
        }

        /** The start and the set in one number, to be parted by startOf and setOf. */
        int findBestRound(int decree, int must) {
            for (int i = 0; i < FEW.length; i++) {
                int start = crier.canKeepIn(FEW[i]) ? findStart(decree, must, FEW[i]) : NONE;
                if (start != NONE) {
                    return FEW[i] * STARTS + start;
                }
            }
            return NONE;
        }

        static int startOf(int found) {
            return found % STARTS;
        }

        static int setOf(int found) {
            return found / STARTS;
        }

        void gatherBeginnings(int law, int k, int way) {
            beginnings.clear();
            for (int decree = 0; decree < ALL_DECREES; decree++) {
                if (isBeginning(decree, law, k, way)) {
                    beginnings.add(decree);
                }
            }
        }

        int sureClauses() {
            int sure = beginnings.count == 0 ? 0 : ring.clauses;
            for (int i = 0; i < beginnings.count; i++) {
                sure &= beginnings.get(i);
            }
            return sure;
        }

        int passableCorners() {
            int set = 0;
            for (int k = 0; k < ring.corners; k++) {
                if (isPassable(k)) {
                    set |= 1 << k;
                }
            }
            return set;
        }

        int findLiars(int decree, int k, int way) {
            int best = NONE;
            int least = 0;
            for (int set = 0; set <= firstOf(ring.corners); set++) {
                int beer = ring.beerOf(set);
                if ((best == NONE || beer < least) && holdsWithLiars(decree, k, way, set)) {
                    best = set;
                    least = beer;
                }
            }
            return best;
        }

        int findVictim(int decree, int k, int way) {
            int victim = NONE;
            int least = countHolding(decree, k, way, 0);
            for (int h = 0; h < ring.hearers; h++) {
                if (!has(now.keptIn, h)) {
                    int count = countHolding(decree, k, way, 1 << h);
                    if (count < least) {
                        least = count;
                        victim = h;
                    }
                }
            }
            return victim;
        }

        int countHolding(int decree, int k, int way, int keptBesides) {
            crier.start(decree, keptBesides, 0);
            crier.goRound(k, way);
            return Integer.bitCount(crier.holds);
        }

        private int findStart(int decree, int must, int keptBesides) {
            for (int start = 0; start < 2 * ring.corners; start++) {
                crier.start(decree, keptBesides, 0);
                if (crier.holdsAllRound(start / 2, start % 2) && (must & ~crier.decree) == 0) {
                    return start;
                }
            }
            return NONE;
        }

        private boolean isBeginning(int decree, int law, int k, int way) {
            if (!ring.allows(decree)) {
                return false;
            }
            crier.start(decree, 0, 0);
            crier.goRound(k, way);
            return crier.decree == law;
        }

        private boolean isPassable(int k) {
            for (int decree = 0; decree < ALL_DECREES; decree++) {
                if (ring.allows(decree)) {
                    crier.start(decree, 0, 0);
                    if (crier.readAt(k)) {
                        return true;
                    }
                }
            }
            return false;
        }

        private boolean holdsWithLiars(int decree, int k, int way, int set) {
            crier.start(decree, 0, set);
            return crier.holdsAllRound(k, way);
        }
    }

    /** The latest deeds: the state ahead of each. */
    private static final class Past {
        private final State[] states = new State[MOST_DEEDS];
        private int next;
        private int count;

        Past() {
            for (int i = 0; i < states.length; i++) {
                states[i] = new State();
            }
        }

        void forget() {
            count = 0;
        }

        void remember(State now) {
            if (next < 0 || next >= states.length) {
                return;
            }
            State state = states[next];
            if (state != null) {
                state.become(now);
            }
            next = next + 1 < MOST_DEEDS ? next + 1 : 0;
            count = Math.min(count + 1, MOST_DEEDS);
        }

        void takeBack(int n, State now) {
            int from = next - n < 0 ? next - n + MOST_DEEDS : next - n;
            if (from < 0 || from >= states.length) {
                return;
            }
            State state = states[from];
            if (state != null) {
                now.become(state);
            }
            next = from;
            count -= n;
        }
    }

    /** What can be gone back to. */
    private static final class Image {
        private final State state = new State();
        private int seedThen;
        private boolean isTaken;

        void take(State now, int seedNow) {
            state.become(now);
            seedThen = seedNow;
            isTaken = true;
        }
    }

    /** What was seen, and who may be behind it. */
    private static final class Witnesses {
        private final Town ring;
        private final Crier crier;
        private final Row decrees = new Row(MOST_SEEN);
        private final Row corners = new Row(MOST_SEEN);
        private final Row voices = new Row(MOST_SEEN);
        private final Row suspects = new Row(FEW.length);

        Witnesses(Town ring, Crier crier) {
            this.ring = ring;
            this.crier = crier;
        }

        int add(int decree, int k, int spoke) {
            corners.add(k);
            voices.add(spoke);
            return decrees.add(decree);
        }

        void forget() {
            decrees.clear();
            corners.clear();
            voices.clear();
        }

        void gatherSuspects() {
            suspects.clear();
            for (int i = 0; i < FEW.length; i++) {
                if (crier.canKeepIn(FEW[i]) && explainsAll(FEW[i])) {
                    suspects.add(FEW[i]);
                }
            }
        }

        int bestParting() {
            int best = NONE;
            int least = suspects.count;
            for (int h = 0; h < ring.hearers; h++) {
                int with = countWith(h);
                int greatest = Math.max(with, suspects.count - with);
                if (greatest < least) {
                    least = greatest;
                    best = h;
                }
            }
            return best;
        }

        private int countWith(int h) {
            int with = 0;
            for (int i = 0; i < suspects.count; i++) {
                with += bit(suspects.get(i), h);
            }
            return with;
        }

        private boolean explainsAll(int keptBesides) {
            for (int i = 0; i < decrees.count; i++) {
                crier.start(decrees.get(i), keptBesides, 0);
                crier.readAt(corners.get(i));
                if (crier.spoke != voices.get(i)) {
                    return false;
                }
            }
            return true;
        }
    }

    /** Numbers as they came, so many at most. */
    private static final class Row {
        private final int[] items;
        private int count;

        Row(int most) {
            items = new int[Math.max(most, 0)];
        }

        int add(int item) {
            if (count < 0 || count >= items.length) {
                return FULL;
            }
            items[count] = item;
            count++;
            return count;
        }

        int get(int i) {
            return i >= 0 && i < count && i < items.length ? items[i] : NONE;
        }

        void clear() {
            count = 0;
        }
    }

    /** The seed and the draws from it. */
    private static final class Draws {
        private int value;

        int next(int n) {
            value = (int) ((value * 1103515245L + 12345L) & GREATEST_SEED);
            return n > 0 ? value / 65536 % n : 0;
        }
    }
}
