import java.util.NoSuchElementException;

/** A fort of men in a ring, each of whom watches the sleep of the next one. */
public final class DreamGuard {
    public static final int NONE = -1;
    public static final int HIDDEN = -1000000;

    private static final int TAPE_ROOM = 240;
    private static final int MEN_ROOM = 6;
    private static final int HOURS_ROOM = 10;
    private static final int LAWS_ROOM = 4;
    private static final int LOG_ROOM = 60;
    private static final int ACTS_ROOM = 40;
    private static final int NOTES_ROOM = 10;
    private static final int NIGHTS_AT_ONCE = 60;
    private static final int LAST_NIGHT = 999;
    private static final int MOST_COINS = 999;
    private static final int MOST_DREAMT = 9999;
    private static final int MOST_TIRED = 99;
    private static final int MOST_EYES = 9;
    private static final int DEEPEST_DREAM = 20;
    private static final int MOST_SNOW = 9;

    private static final int FORT_SORT = 0;
    private static final int LAW_SORT = 1;
    private static final int NO_SUCH_SORT = -2;

    private static final int REFUSED_UNKNOWN = 0;
    private static final int REFUSED_BOUNDS = 1;
    private static final int REFUSED_SAME = 2;
    private static final int REFUSED_COINS = 3;
    private static final int REFUSED_LAST_NIGHT = 4;

    private static final int PRICE_OF_EYES = 2;
    private static final int PRICE_OF_DULLING = 3;
    private static final int PRICE_OF_PLACES = 1;

    private static final int MOVES = 4;
    private static final int GAME_START = 8;
    private static final int NIGHTMARE_LOSS = 2;
    private static final int MOST_SHARED = 999;
    private static final int ALL_PARTS = 1000000000;
    private static final int ROWS_OF_RING = 120;

    private final Tape tape = new Tape();
    private final FortReader fortReader = new FortReader(tape);
    private final LawReader lawReader = new LawReader(tape);
    private final LawBook laws = new LawBook();
    private final Fort fort = new Fort();
    private final State now = new State();
    private final State trial = new State();
    private final State kept = new State();
    private boolean hasImage = false;
    private final Acts acts = new Acts();
    private final Night tonight = new Night(fort, laws);
    private final Notes sightings = new Notes();
    private final Notes sayings = new Notes();
    private final Suspects suspects = new Suspects(fort, tonight, sightings, trial);
    private final Stagger staggering = new Stagger(fort, now);
    private final int[] refused = new int[5];
    private final int[] ringRow = new int[MEN_ROOM];
    private final int[] gains = new int[2 * MOVES * MOVES];
    private int snowing = 0;
    private long seedling = 0;

    public DreamGuard() {
    }

    // ---- the tape and what is told on it

    public int feed(int a, int b, int c, int d, int e) {
        int more = Tape.signsIn(a) + Tape.signsIn(b) + Tape.signsIn(c) + Tape.signsIn(d) + Tape.signsIn(e);
        if (tape.length + more > TAPE_ROOM) {
            return NONE;
        }
        tape.append(a);
        tape.append(b);
        tape.append(c);
        tape.append(d);
        tape.append(e);
        return tape.length;
    }

    public boolean end(int n) {
        if (n < 0 || n > tape.length) {
            return false;
        }
        tape.length = n;
        return true;
    }

    public int fault(int sort) {
        if (sort != FORT_SORT && sort != LAW_SORT) {
            return NO_SUCH_SORT;
        }
        boolean fits = sort == FORT_SORT ? fortReader.readFort() : lawReader.readLaw();
        return fits ? NONE : tape.position;
    }

    public int text(int sort) {
        if (sort == FORT_SORT && fortReader.readFort()) {
            fortReader.settle(fort);
            beginFort();
            tape.length = 0;
            return fort.men;
        }
        if (sort == LAW_SORT && laws.count < LAWS_ROOM && lawReader.readLaw()) {
            tape.length = 0;
            return laws.add(lawReader.code, lawReader.size);
        }
        return NONE;
    }

    private void beginFort() {
        now.copyFrom(fort.told);
        hasImage = false;
        acts.count = 0;
        sightings.count = 0;
        sayings.count = 0;
    }

    public int rule(int what) {
        if (!hasFort()) {
            return NONE;
        }
        switch (what) {
            case 0: return fort.hours;
            case 1: return fort.nightmare;
            case 2: return now.coins;
            default: return NONE;
        }
    }

    public int man(int man, int what) throws NoSuchElementException {
        if (!fort.hasMan(man) || what < 0 || what > 6) {
            throw new NoSuchElementException("no such man, or nothing of that sort is told of him");
        }
        switch (what) {
            case 0: return fort.needs[man];
            case 1: return now.dreams[man];
            case 2: return now.eyes[man];
            case 3: return now.bed[man];
            case 4: return now.tired[man];
            case 5: return now.dreamt[man];
            default: return now.place[man];
        }
    }

    public boolean law(int law) {
        if (law < NONE || law >= laws.count) {
            return false;
        }
        laws.holding = law;
        return true;
    }

    // ---- acts

    public int bed(int man, int hour) {
        if (!fort.hasMan(man)) {
            return refuse(REFUSED_UNKNOWN);
        }
        if (!fort.hasHour(hour)) {
            return refuse(REFUSED_BOUNDS);
        }
        int before = now.bed[man];
        if (before == hour) {
            return refuse(REFUSED_SAME);
        }
        acts.remember(now);
        now.bed[man] = hour;
        return before;
    }

    public int train(int man) {
        if (!fort.hasMan(man)) {
            return refuse(REFUSED_UNKNOWN);
        }
        if (now.eyes[man] >= MOST_EYES) {
            return refuse(REFUSED_SAME);
        }
        if (now.coins < PRICE_OF_EYES) {
            return refuse(REFUSED_COINS);
        }
        acts.remember(now);
        now.coins -= PRICE_OF_EYES;
        now.eyes[man]++;
        return now.eyes[man];
    }

    public int dull(int man) {
        if (!fort.hasMan(man)) {
            return refuse(REFUSED_UNKNOWN);
        }
        if (now.dreams[man] <= 0) {
            return refuse(REFUSED_SAME);
        }
        if (now.coins < PRICE_OF_DULLING) {
            return refuse(REFUSED_COINS);
        }
        acts.remember(now);
        now.coins -= PRICE_OF_DULLING;
        now.dreams[man]--;
        return now.dreams[man];
    }

    public int swap(int man, int other) {
        if (!fort.hasMan(man) || !fort.hasMan(other)) {
            return refuse(REFUSED_UNKNOWN);
        }
        if (man == other) {
            return refuse(REFUSED_BOUNDS);
        }
        if (now.coins < PRICE_OF_PLACES) {
            return refuse(REFUSED_COINS);
        }
        acts.remember(now);
        now.coins -= PRICE_OF_PLACES;
        changePlaces(man, other);
        return now.place[man];
    }

    public int nights(int n) {
        if (!hasFort()) {
            return refuse(REFUSED_UNKNOWN);
        }
        if (n < 1 || n > NIGHTS_AT_ONCE) {
            return refuse(REFUSED_BOUNDS);
        }
        if (now.night + n > LAST_NIGHT) {
            return refuse(REFUSED_LAST_NIGHT);
        }
        for (int k = 0; k < n; k++) {
            acts.remember(now);
            tonight.pass(now);
        }
        return now.night;
    }

    public boolean snow(int v) {
        if (v < 0 || v > MOST_SNOW || v == snowing) {
            return false;
        }
        snowing = v;
        return true;
    }

    public int years(int n, long seed) {
        if (!hasFort() || n < 1 || n > NIGHTS_AT_ONCE || now.night + n > LAST_NIGHT) {
            return NONE;
        }
        seedling = seed;
        for (int k = 0; k < n; k++) {
            acts.remember(now);
            drawBed();
            drawPlaces();
            tonight.pass(now);
        }
        return now.night;
    }

    private void drawBed() {
        int man = draw(fort.men);
        int hour = draw(fort.hours);
        if (fort.hasMan(man)) {
            now.bed[man] = hour;
        }
    }

    private void drawPlaces() {
        if (draw(10) >= snowing) {
            return;
        }
        int man = draw(fort.men);
        int other = draw(fort.men);
        if (man != other && fort.hasMan(man) && fort.hasMan(other)) {
            changePlaces(man, other);
        }
    }

    private int draw(int j) {
        seedling = seedling * 6364136223846793005L + 1442695040888963407L;
        return j > 0 ? (int) ((seedling >>> 33) % j) : 0;
    }

    private void changePlaces(int man, int other) {
        int place = now.place[man];
        now.place[man] = now.place[other];
        now.place[other] = place;
    }

    private int refuse(int reason) {
        refused[reason]++;
        return NONE;
    }

    public int status(int what) {
        return what < 0 || what >= refused.length ? NONE : refused[what];
    }

    public int undo() {
        if (acts.count == 0) {
            return NONE;
        }
        acts.takeBack(now);
        return acts.count;
    }

    public int log(int i, int what) {
        if (i < 0 || i >= now.logLength()) {
            return NONE;
        }
        int entry = now.log[(now.night - 1 - i) % LOG_ROOM];
        switch (what) {
            case 0: return entry % 100;
            case 1: return entry / 100 % 100;
            case 2: return entry / 10000;
            default: return NONE;
        }
    }

    // ---- a night now

    public int sleeps(int man, int hour) {
        if (!fort.hasMan(man) || !fort.hasHour(hour)) {
            return NONE;
        }
        tonight.run(now);
        return tonight.sort[hour * MEN_ROOM + man];
    }

    public int dream(int man, int hour) {
        if (!fort.hasMan(man) || !fort.hasHour(hour)) {
            return NONE;
        }
        tonight.run(now);
        return tonight.dream[hour * MEN_ROOM + man];
    }

    public int slept(int man, int what) {
        if (!fort.hasMan(man) || what < 0 || what > 1) {
            return HIDDEN;
        }
        tonight.run(now);
        return what == 0 ? tonight.slept[man] : tonight.wokenAt[man];
    }

    public int night(int what) {
        if (!hasFort()) {
            return NONE;
        }
        tonight.run(now);
        switch (what) {
            case 0: return tonight.unwatched;
            case 1: return tonight.gate;
            case 2: return tonight.allNightmares();
            case 3: return tonight.wokenBits();
            case 4: return tonight.hourOfFewest();
            default: return NONE;
        }
    }

    public int awake(int hour) {
        if (!fort.hasHour(hour)) {
            return NONE;
        }
        tonight.run(now);
        return tonight.awakeBits(hour);
    }

    public int odds(int chance) {
        if (!hasFort() || chance < 0 || chance > 100) {
            return NONE;
        }
        tonight.run(now);
        long left = ALL_PARTS;
        for (int k = 0; k < tonight.gate; k++) {
            left -= left * chance / 100;
        }
        return (int) left;
    }

    // ---- searches

    public int stagger(int what) {
        if (!hasFort() || what < 0 || what > 1) {
            return NONE;
        }
        return what == 0 ? staggering.fewestChanges() : staggering.leastRow();
    }

    public int ring(int what) {
        if (!hasFort() || what < 0 || what > 1) {
            return NONE;
        }
        trial.copyFrom(now);
        layFirstRow();
        int leastRow = NONE;
        int fewest = NONE;
        for (int k = 0; k < ROWS_OF_RING; k++) {
            int nightmares = nightmaresByRow();
            if (fewest == NONE || nightmares < fewest) {
                fewest = nightmares;
                leastRow = digitsOfRow();
            }
            if (fewest == 0 || !layNextRow()) {
                break;
            }
        }
        return what == 0 ? leastRow : fewest;
    }

    private void layFirstRow() {
        int size = 1;
        for (int man = 0; man < fort.men; man++) {
            if (now.place[man] == 0) {
                ringRow[0] = man;
            } else if (size < MEN_ROOM) {
                ringRow[size] = man;
                size++;
            }
        }
    }

    private int nightmaresByRow() {
        for (int place = 0; place < fort.men; place++) {
            int man = ringRow[place];
            if (fort.hasMan(man)) {
                trial.place[man] = place;
            }
        }
        tonight.run(trial);
        return tonight.allNightmares();
    }

    private int digitsOfRow() {
        int digits = 0;
        for (int place = 0; place < fort.men; place++) {
            digits = digits * 10 + ringRow[place];
        }
        return digits;
    }

    /** Lays the next greater row with the same first man; false: this was the greatest. */
    private boolean layNextRow() {
        int pivot = fort.men - 2;
        while (pivot > 0 && ringRow[pivot] > ringRow[pivot + 1]) {
            pivot--;
        }
        if (pivot <= 0) {
            return false;
        }
        int heir = fort.men - 1;
        while (heir > pivot && ringRow[heir] < ringRow[pivot]) {
            heir--;
        }
        exchangeInRow(pivot, heir);
        int high = fort.men - 1;
        for (int low = pivot + 1; low < high; low++) {
            exchangeInRow(low, high);
            high--;
        }
        return true;
    }

    private void exchangeInRow(int one, int other) {
        int man = ringRow[one];
        ringRow[one] = ringRow[other];
        ringRow[other] = man;
    }

    public int best(int man, int what) {
        if (!fort.hasMan(man) || what < 0 || what > 1) {
            return NONE;
        }
        trial.copyFrom(now);
        int bestHour = NONE;
        int least = NONE;
        for (int hour = 0; hour < fort.hours; hour++) {
            trial.bed[man] = hour;
            tonight.run(trial);
            if (least == NONE || tonight.dreamt[man] < least) {
                least = tonight.dreamt[man];
                bestHour = hour;
            }
        }
        return what == 0 ? bestHour : least;
    }

    // ---- what was seen and said

    public int seen(int man, int hour, boolean is) {
        if (!fort.hasMan(man) || hour < 0 || hour >= HOURS_ROOM) {
            return NONE;
        }
        return sightings.add(man, hour, is);
    }

    public int who(int g, int i) {
        if (!hasFort() || !isGrowth(g) || i < NONE) {
            return NONE;
        }
        suspects.find(g);
        if (i == NONE) {
            return suspects.count;
        }
        return i < suspects.count ? suspects.fitting[i] : NONE;
    }

    public int hourToAsk(int g) {
        if (!hasFort() || !isGrowth(g)) {
            return NONE;
        }
        suspects.find(g);
        return suspects.hourThatParts();
    }

    private static boolean isGrowth(int g) {
        return g >= 1 && g <= 9;
    }

    public int said(int man, int other, boolean woken) {
        if (!areTwo(man, other)) {
            return NONE;
        }
        return sayings.add(man, other, woken);
    }

    public int liars() {
        if (!hasFort()) {
            return NONE;
        }
        tonight.run(now);
        int woken = tonight.wokenBits();
        int bits = 0;
        for (int k = 0; k < sayings.count; k++) {
            boolean isWoken = (woken >> sayings.thing[k] & 1) == 1;
            if (isWoken != sayings.claim[k]) {
                bits |= 1 << sayings.man[k];
            }
        }
        return bits;
    }

    // ---- the game of eyes

    public int game(int one, int other, int x, int y, int what) {
        if (!areTwo(one, other) || !isMove(x) || !isMove(y) || what < 0 || what > 1) {
            return HIDDEN;
        }
        play(one, other, x, y);
        return what == 0 ? gainOf(one, x) : gainOf(other, y);
    }

    public int rests(int one, int other, int i) {
        if (!areTwo(one, other) || i < NONE) {
            return NONE;
        }
        playAll(one, other);
        int count = 0;
        for (int moves = 0; moves < MOVES * MOVES; moves++) {
            int x = moves / MOVES;
            int y = moves % MOVES;
            if (restsAt(x, y)) {
                if (count == i) {
                    return 10 * x + y;
                }
                count++;
            }
        }
        return i == NONE ? count : NONE;
    }

    private static boolean isMove(int move) {
        return move >= 0 && move < MOVES;
    }

    private void play(int one, int other, int x, int y) {
        trial.copyFrom(now);
        trial.eyes[one] += x;
        trial.eyes[other] += y;
        tonight.run(trial);
    }

    private int gainOf(int man, int move) {
        int gain = GAME_START - move;
        for (int sleeper = 0; sleeper < fort.men; sleeper++) {
            if (tonight.watcher[sleeper] == man) {
                gain -= NIGHTMARE_LOSS * tonight.nightmares[sleeper];
            }
        }
        return gain;
    }

    private void playAll(int one, int other) {
        for (int moves = 0; moves < MOVES * MOVES; moves++) {
            int x = moves / MOVES;
            int y = moves % MOVES;
            play(one, other, x, y);
            gains[2 * moves] = gainOf(one, x);
            gains[2 * moves + 1] = gainOf(other, y);
        }
    }

    private boolean restsAt(int x, int y) {
        int here = 2 * (MOVES * x + y);
        for (int move = 0; move < MOVES; move++) {
            if (gains[2 * (MOVES * move + y)] > gains[here]) {
                return false;
            }
            if (gains[2 * (MOVES * x + move) + 1] > gains[here + 1]) {
                return false;
            }
        }
        return true;
    }

    // ---- the men as they are

    public int shares(int man, int c) {
        if (!fort.hasMan(man) || c < 0 || c > MOST_SHARED) {
            return NONE;
        }
        int all = sumOfMen(now.eyes);
        return all <= 0 ? 0 : c * now.eyes[man] / all;
    }

    public int watcher(int man) {
        if (!fort.hasMan(man)) {
            return NONE;
        }
        return now.watcherOf(man, fort.men);
    }

    public int most(int what) {
        if (!hasFort()) {
            return NONE;
        }
        switch (what) {
            case 0: return manWith(now.tired, 1);
            case 1: return manWith(now.dreamt, -1);
            case 2: return manWith(now.eyes, 1);
            case 3: return nightsUntilRested();
            case 4: return now.gate;
            default: return NONE;
        }
    }

    /** The first man with the most of it, or, with a sign of -1, the least. */
    private int manWith(int[] row, int sign) {
        int found = 0;
        for (int man = 1; man < fort.men; man++) {
            if (sign * row[man] > sign * row[found]) {
                found = man;
            }
        }
        return found;
    }

    private int nightsUntilRested() {
        trial.copyFrom(now);
        for (int k = 0; k <= NIGHTS_AT_ONCE; k++) {
            if (sumOfMen(trial.tired) == 0) {
                return k;
            }
            if (trial.night >= LAST_NIGHT) {
                return NONE;
            }
            tonight.pass(trial);
        }
        return NONE;
    }

    private int sumOfMen(int[] row) {
        int sum = 0;
        for (int man = 0; man < fort.men; man++) {
            sum += row[man];
        }
        return sum;
    }

    public int spare(int man) {
        return fort.hasMan(man) ? fort.hours - fort.needs[man] : NONE;
    }

    // ---- images and counts

    public int image() {
        if (!hasFort()) {
            return NONE;
        }
        kept.copyFrom(now);
        hasImage = true;
        return now.night;
    }

    public int back() {
        if (!hasImage) {
            return NONE;
        }
        now.copyFrom(kept);
        acts.count = 0;
        return now.night;
    }

    public int count(int what) {
        switch (what) {
            case 0: return fort.men;
            case 1: return laws.count;
            case 2: return tape.length;
            case 3: return laws.holding;
            case 4: return now.night;
            case 5: return sumOfMen(now.tired);
            case 6: return sumOfMen(now.dreamt);
            case 7: return snowing;
            case 8: return sightings.count;
            case 9: return sayings.count;
            case 10: return now.logLength();
            case 11: return acts.count;
            default: return HIDDEN;
        }
    }

    private boolean hasFort() {
        return fort.men > 0;
    }

    private boolean areTwo(int one, int other) {
        return fort.hasMan(one) && fort.hasMan(other) && one != other;
    }

    /** What acts change, and what undoing and images bring back. */
    private static final class State {
        final int[] bed = new int[MEN_ROOM];
        final int[] eyes = new int[MEN_ROOM];
        final int[] dreams = new int[MEN_ROOM];
        final int[] tired = new int[MEN_ROOM];
        final int[] dreamt = new int[MEN_ROOM];
        final int[] place = new int[MEN_ROOM];
        /** One number a night, in the slot of the night modulo the room: each night writes just one. */
        final int[] log = new int[LOG_ROOM];
        int coins = 0;
        int gate = 0;
        int night = 0;

        void copyFrom(State other) {
            System.arraycopy(other.bed, 0, bed, 0, MEN_ROOM);
            System.arraycopy(other.eyes, 0, eyes, 0, MEN_ROOM);
            System.arraycopy(other.dreams, 0, dreams, 0, MEN_ROOM);
            System.arraycopy(other.tired, 0, tired, 0, MEN_ROOM);
            System.arraycopy(other.dreamt, 0, dreamt, 0, MEN_ROOM);
            System.arraycopy(other.place, 0, place, 0, MEN_ROOM);
            System.arraycopy(other.log, 0, log, 0, LOG_ROOM);
            coins = other.coins;
            gate = other.gate;
            night = other.night;
        }

        int logLength() {
            return night < LOG_ROOM ? night : LOG_ROOM;
        }

        int watcherOf(int man, int men) {
            int ahead = place[man] == 0 ? men - 1 : place[man] - 1;
            for (int other = 0; other < men; other++) {
                if (place[other] == ahead) {
                    return other;
                }
            }
            return NONE;
        }
    }

    /** The fort as its text tells it; without men there is none. */
    private static final class Fort {
        int men = 0;
        int hours = 0;
        int nightmare = 0;
        final int[] needs = new int[MEN_ROOM];
        final State told = new State();

        boolean hasMan(int man) {
            return man >= 0 && man < men;
        }

        boolean hasHour(int hour) {
            return hour >= 0 && hour < hours;
        }
    }

    /** The bytes that were fed, and the place at which a reader stands. */
    private static final class Tape {
        static final int END = 0;
        private static final int BLANK = 32;

        final int[] signs = new int[TAPE_ROOM];
        int length = 0;
        int position = 0;

        static int signsIn(int word) {
            int count = 0;
            for (int shift = 24; shift >= 0; shift -= 8) {
                if ((word >>> shift & 255) != 0) {
                    count++;
                }
            }
            return count;
        }

        void append(int word) {
            for (int shift = 24; shift >= 0; shift -= 8) {
                int sign = word >>> shift & 255;
                if (sign != 0 && length < TAPE_ROOM) {
                    signs[length] = sign;
                    length++;
                }
            }
        }

        /** The sign at which the reader stands, blanks too. */
        int here() {
            return position < length ? signs[position] : END;
        }

        /** The next sign that is no blank: the reader stands at it then. */
        int peek() {
            while (position < length && signs[position] == BLANK) {
                position++;
            }
            return position < length ? signs[position] : END;
        }

        boolean take(int sign) {
            if (peek() != sign) {
                return false;
            }
            position++;
            return true;
        }

        /** A number of so many digits at most; NONE: the reader stands at what is wrong. */
        int takeNumber(int digits) {
            if (!isDigit(peek())) {
                return NONE;
            }
            int value = 0;
            for (int k = 0; k < digits && isDigit(here()); k++) {
                value = value * 10 + here() - '0';
                position++;
            }
            return isDigit(here()) ? NONE : value;
        }

        static boolean isDigit(int sign) {
            return sign >= '0' && sign <= '9';
        }
    }

    /** Reads the tape as a fort; what it reads counts only once it is settled. */
    private static final class FortReader {
        private static final String RULE_LETTERS = "hnc";
        private static final int[] RULE_LOW = {4, 1, 0};
        private static final int[] RULE_HIGH = {10, 20, 99};
        private static final int[] RULE_FIRST = {8, 7, 20};
        private static final String MAN_LETTERS = "ndeb";
        private static final int[] MAN_LOW = {0, 0, 0, 0};
        private static final int[] MAN_HIGH = {10, 9, 9, 9};
        private static final int[] MAN_FIRST = {3, 3, 5, 0};
        private static final int ITEMS = 4;
        private static final int FEWEST_MEN = 2;

        private final Tape tape;
        private final int[] rules = new int[ITEMS];
        private final int[][] rows = new int[MEN_ROOM][ITEMS];
        private final boolean[] given = new boolean[ITEMS];
        private int men = 0;
        private boolean hasRules = false;

        FortReader(Tape tape) {
            this.tape = tape;
        }

        /** Whether the tape is a fort; if not, the tape's reader stands at the fault. */
        boolean readFort() {
            tape.position = 0;
            men = 0;
            hasRules = false;
            System.arraycopy(RULE_FIRST, 0, rules, 0, RULE_FIRST.length);
            for (int k = 0; k < TAPE_ROOM; k++) {
                if (!readClause()) {
                    return false;
                }
                if (!tape.take(';')) {
                    break;
                }
            }
            return tape.peek() == Tape.END && isWhole();
        }

        private boolean readClause() {
            int sign = tape.peek();
            if (sign == 's' && !hasRules) {
                hasRules = true;
                tape.position++;
                return readItems(RULE_LETTERS, RULE_LOW, RULE_HIGH, rules);
            }
            if (sign == 'm' && men < MEN_ROOM) {
                int[] row = rows[men];
                men++;
                tape.position++;
                System.arraycopy(MAN_FIRST, 0, row, 0, ITEMS);
                return readItems(MAN_LETTERS, MAN_LOW, MAN_HIGH, row);
            }
            return false;
        }

        private boolean readItems(String letters, int[] low, int[] high, int[] row) {
            for (int item = 0; item < ITEMS; item++) {
                given[item] = false;
            }
            for (int k = 0; k <= ITEMS; k++) {
                int item = letters.indexOf((char) tape.peek());
                if (item < 0 || item >= ITEMS) {
                    return true;
                }
                if (given[item]) {
                    return false;
                }
                given[item] = true;
                tape.position++;
                int number = tape.takeNumber(2);
                if (number == NONE) {
                    return false;
                }
                if (number < low[item] || number > high[item]) {
                    tape.position--;
                    return false;
                }
                row[item] = number;
            }
            return true;
        }

        /** What only the end of the text shows: the reader stands behind its last byte. */
        private boolean isWhole() {
            for (int man = 0; man < men; man++) {
                if (rows[man][0] > rules[0] || rows[man][3] >= rules[0]) {
                    return false;
                }
            }
            return men >= FEWEST_MEN;
        }

        void settle(Fort fort) {
            fort.men = men;
            fort.hours = rules[0];
            fort.nightmare = rules[1];
            State told = fort.told;
            told.coins = rules[2];
            for (int man = 0; man < men; man++) {
                fort.needs[man] = rows[man][0];
                told.dreams[man] = rows[man][1];
                told.eyes[man] = rows[man][2];
                told.bed[man] = rows[man][3];
                told.place[man] = man;
            }
        }
    }

    /**
     * Reads the tape as a law and writes it as code for a stack: a number stands for itself, a letter
     * for LETTER and its place among the letters, an operation for its sign below 0 behind what it takes.
     */
    private static final class LawReader {
        static final int LETTER = 10000;
        static final int CODE_ROOM = TAPE_ROOM + 2;
        private static final String LETTERS = "diehwn";
        private static final int DEEPEST = 6;

        private final Tape tape;
        final int[] code = new int[CODE_ROOM];
        int size = 0;

        LawReader(Tape tape) {
            this.tape = tape;
        }

        /** Whether the tape is a law; if not, the tape's reader stands at the fault. */
        boolean readLaw() {
            tape.position = 0;
            size = 0;
            for (int k = 0; k < TAPE_ROOM; k++) {
                if (!readClause()) {
                    return false;
                }
                emit(-';');
                if (!tape.take(';')) {
                    break;
                }
            }
            return tape.peek() == Tape.END;
        }

        private boolean readClause() {
            if (!tape.take('y') || !tape.take(':')) {
                return false;
            }
            int sign = tape.peek();
            boolean beginsWithSum = sign != '!' && sign != '(';
            if (beginsWithSum) {
                if (!readSum(0)) {
                    return false;
                }
                if (!isComparison(tape.peek())) {
                    return true;
                }
            }
            if (!readCondition(0, beginsWithSum) || !tape.take('?')) {
                return false;
            }
            emit(-'?');
            return readSum(0);
        }

        /** With begun its first sum has been read: only behind it shows that it is a condition. */
        private boolean readCondition(int depth, boolean begun) {
            if (!readTruth(depth, begun)) {
                return false;
            }
            for (int k = 0; k < TAPE_ROOM && tape.take('|'); k++) {
                if (!readTruth(depth, false)) {
                    return false;
                }
                emit(-'|');
            }
            return true;
        }

        private boolean readTruth(int depth, boolean begun) {
            if (!readUnit(depth, begun)) {
                return false;
            }
            for (int k = 0; k < TAPE_ROOM && tape.take('&'); k++) {
                if (!readUnit(depth, false)) {
                    return false;
                }
                emit(-'&');
            }
            return true;
        }

        private boolean readUnit(int depth, boolean begun) {
            int sign = tape.peek();
            if (!begun && (sign == '!' || sign == '(')) {
                return readNested(sign, depth);
            }
            if (!begun && !readSum(depth)) {
                return false;
            }
            int comparison = tape.peek();
            if (!isComparison(comparison)) {
                return false;
            }
            tape.position++;
            if (!readSum(depth)) {
                return false;
            }
            emit(-comparison);
            return true;
        }

        /** What ! turns round, or what ( and ) hold. */
        private boolean readNested(int sign, int depth) {
            if (depth >= DEEPEST) {
                return false;
            }
            tape.position++;
            if (sign == '(') {
                return readCondition(depth + 1, false) && tape.take(')');
            }
            if (!readUnit(depth + 1, false)) {
                return false;
            }
            emit(-'!');
            return true;
        }

        private boolean readSum(int depth) {
            if (!readTerm(depth)) {
                return false;
            }
            for (int k = 0; k < TAPE_ROOM; k++) {
                int sign = tape.peek();
                if (sign != '+' && sign != '-') {
                    break;
                }
                tape.position++;
                if (!readTerm(depth)) {
                    return false;
                }
                emit(-sign);
            }
            return true;
        }

        private boolean readTerm(int depth) {
            if (!readAtom(depth)) {
                return false;
            }
            for (int k = 0; k < TAPE_ROOM; k++) {
                int sign = tape.peek();
                if (sign != '*' && sign != '/') {
                    break;
                }
                tape.position++;
                if (!readAtom(depth)) {
                    return false;
                }
                emit(-sign);
            }
            return true;
        }

        private boolean readAtom(int depth) {
            int sign = tape.peek();
            if (sign == '[') {
                if (depth >= DEEPEST) {
                    return false;
                }
                tape.position++;
                return readSum(depth + 1) && tape.take(']');
            }
            int letter = LETTERS.indexOf((char) sign);
            if (letter >= 0) {
                tape.position++;
                emit(LETTER + letter);
                return true;
            }
            int number = tape.takeNumber(4);
            if (number == NONE) {
                return false;
            }
            emit(number);
            return true;
        }

        private static boolean isComparison(int sign) {
            return sign == '=' || sign == '<' || sign == '>';
        }

        private void emit(int step) {
            if (size < CODE_ROOM) {
                code[size] = step;
                size++;
            }
        }
    }

    /** The laws, which of them holds, and what it is worth. */
    private static final class LawBook {
        private static final int LETTERS = 6;
        private static final int STACK_ROOM = 64;
        private static final int BOUND = 1000000;

        private final int[][] codes = new int[LAWS_ROOM][LawReader.CODE_ROOM];
        private final int[] sizes = new int[LAWS_ROOM];
        private final int[] stack = new int[STACK_ROOM];
        /** What the letters d i e h w n stand for. */
        final int[] letters = new int[LETTERS];
        int count = 0;
        int holding = NONE;

        int add(int[] code, int size) {
            if (count >= LAWS_ROOM || size < 0 || size > code.length || size > LawReader.CODE_ROOM) {
                return NONE;
            }
            System.arraycopy(code, 0, codes[count], 0, size);
            sizes[count] = size;
            count++;
            return count - 1;
        }

        /** The worth of the law that holds; 0, if none does. */
        int worth() {
            if (holding < 0 || holding >= count) {
                return 0;
            }
            int[] code = codes[holding];
            int top = 0;
            boolean skipping = false;
            for (int k = 0; k < sizes[holding]; k++) {
                int step = code[k];
                if (skipping) {
                    skipping = step != -';';
                } else if (step >= 0) {
                    if (top < STACK_ROOM) {
                        stack[top] = valueOf(step);
                        top++;
                    }
                } else if (top < 1) {
                    return 0;
                } else if (step == -';') {
                    return stack[top - 1];
                } else if (step == -'?') {
                    top--;
                    skipping = stack[top] == 0;
                } else if (step == -'!') {
                    stack[top - 1] = stack[top - 1] == 0 ? 1 : 0;
                } else if (top >= 2) {
                    top--;
                    stack[top - 1] = held(reckon(-step, stack[top - 1], stack[top]));
                }
            }
            return 0;
        }

        private int valueOf(int step) {
            int letter = step - LawReader.LETTER;
            return letter >= 0 && letter < LETTERS ? letters[letter] : step;
        }

        private static long reckon(int sign, long one, long other) {
            switch (sign) {
                case '+': return one + other;
                case '-': return one - other;
                case '*': return one * other;
                case '/': return other == 0 ? 0 : one / other;
                case '=': return one == other ? 1 : 0;
                case '<': return one < other ? 1 : 0;
                case '>': return one > other ? 1 : 0;
                case '&': return one != 0 && other != 0 ? 1 : 0;
                case '|': return one != 0 || other != 0 ? 1 : 0;
                default: return 0;
            }
        }

        private static int held(long number) {
            if (number > BOUND) {
                return BOUND;
            }
            return number < -BOUND ? -BOUND : (int) number;
        }
    }

    /** One night of the fort, hour by hour, from a state that it leaves alone until it has passed. */
    private static final class Night {
        static final int AWAKE = 0;
        static final int UNWATCHED = 1;
        static final int WATCHED = 2;

        private final Fort fort;
        private final LawBook laws;
        final int[] watcher = new int[MEN_ROOM];
        final int[] slept = new int[MEN_ROOM];
        final int[] wokenAt = new int[MEN_ROOM];
        final int[] dreamt = new int[MEN_ROOM];
        final int[] nightmares = new int[MEN_ROOM];
        /** By hours, in each by men: how he sleeps, and his dream (NONE: awake). */
        final int[] sort = new int[HOURS_ROOM * MEN_ROOM];
        final int[] dream = new int[HOURS_ROOM * MEN_ROOM];
        int unwatched = 0;
        int gate = 0;
        int calmHours = 0;

        Night(Fort fort, LawBook laws) {
            this.fort = fort;
            this.laws = laws;
        }

        void run(State state) {
            clear(state);
            for (int hour = 0; hour < fort.hours; hour++) {
                lieDown(state, hour);
                int unwatchedBefore = unwatched;
                boolean anyWatched = false;
                for (int man = 0; man < fort.men; man++) {
                    int how = sort[hour * MEN_ROOM + man];
                    if (how != AWAKE) {
                        sleepOn(state, man, hour, how);
                        anyWatched |= how == WATCHED;
                    }
                }
                if (anyWatched && unwatched == unwatchedBefore) {
                    calmHours++;
                }
            }
        }

        private void clear(State state) {
            unwatched = 0;
            gate = 0;
            calmHours = 0;
            for (int man = 0; man < fort.men; man++) {
                watcher[man] = state.watcherOf(man, fort.men);
                slept[man] = 0;
                wokenAt[man] = NONE;
                dreamt[man] = 0;
                nightmares[man] = 0;
            }
        }

        /** All who sleep are known before any dreams: who is woken in this hour still sleeps in it. */
        private void lieDown(State state, int hour) {
            int base = hour * MEN_ROOM;
            for (int man = 0; man < fort.men; man++) {
                int since = hour - state.bed[man];
                boolean inBed = since >= 0 && since < fort.needs[man];
                sort[base + man] = inBed && wokenAt[man] == NONE ? UNWATCHED : AWAKE;
                dream[base + man] = NONE;
            }
            for (int man = 0; man < fort.men; man++) {
                int guard = watcher[man];
                if (sort[base + man] != AWAKE && fort.hasMan(guard) && sort[base + guard] == AWAKE) {
                    sort[base + man] = WATCHED;
                }
            }
        }

        private void sleepOn(State state, int man, int hour, int how) {
            int deep = dreamOf(state, man, hour, how);
            dream[hour * MEN_ROOM + man] = deep;
            slept[man]++;
            dreamt[man] += deep;
            if (how == UNWATCHED) {
                unwatched++;
            }
            if (deep < fort.nightmare) {
                return;
            }
            nightmares[man]++;
            if (how == WATCHED) {
                wokenAt[man] = hour;
            } else {
                gate++;
            }
        }

        private int dreamOf(State state, int man, int hour, int how) {
            int guard = watcher[man];
            int eyes = fort.hasMan(guard) ? state.eyes[guard] : 0;
            int deep;
            if (laws.holding == NONE) {
                deep = state.dreams[man] + slept[man] - (how == WATCHED ? eyes / 2 : 0);
            } else {
                int[] letters = laws.letters;
                letters[0] = state.dreams[man];
                letters[1] = slept[man];
                letters[2] = eyes;
                letters[3] = hour;
                letters[4] = how == WATCHED ? 1 : 0;
                letters[5] = state.night;
                deep = laws.worth();
            }
            if (deep < 0) {
                return 0;
            }
            return deep > DEEPEST_DREAM ? DEEPEST_DREAM : deep;
        }

        /** The night goes by, and the state is as it is behind it. */
        void pass(State state) {
            run(state);
            for (int man = 0; man < fort.men; man++) {
                state.dreamt[man] = Math.min(MOST_DREAMT, state.dreamt[man] + dreamt[man]);
                int lacking = fort.needs[man] - slept[man];
                int tired = lacking > 0 ? state.tired[man] + lacking : state.tired[man] - 1;
                state.tired[man] = Math.max(0, Math.min(MOST_TIRED, tired));
            }
            state.coins = Math.min(MOST_COINS, state.coins + calmHours);
            state.gate += gate;
            int slot = Math.max(0, state.night) % LOG_ROOM;
            state.log[slot] = unwatched + 100 * wokenBits() + 10000 * gate;
            state.night++;
        }

        int allNightmares() {
            int all = 0;
            for (int man = 0; man < fort.men; man++) {
                all += nightmares[man];
            }
            return all;
        }

        int wokenBits() {
            int bits = 0;
            for (int man = 0; man < fort.men; man++) {
                if (wokenAt[man] != NONE) {
                    bits |= 1 << man;
                }
            }
            return bits;
        }

        int awakeBits(int hour) {
            int bits = 0;
            for (int man = 0; man < fort.men; man++) {
                if (sort[hour * MEN_ROOM + man] == AWAKE) {
                    bits |= 1 << man;
                }
            }
            return bits;
        }

        int hourOfFewest() {
            int found = 0;
            int fewest = MEN_ROOM + 1;
            for (int hour = 0; hour < fort.hours; hour++) {
                int awake = Integer.bitCount(awakeBits(hour));
                if (awake < fewest) {
                    fewest = awake;
                    found = hour;
                }
            }
            return found;
        }
    }

    /** The states ahead of the latest acts, in rows that are used again and again. */
    private static final class Acts {
        private final State[] before = new State[ACTS_ROOM];
        private int next = 0;
        int count = 0;

        Acts() {
            for (int k = 0; k < ACTS_ROOM; k++) {
                before[k] = new State();
            }
        }

        void remember(State state) {
            before[next].copyFrom(state);
            next = (next + 1) % ACTS_ROOM;
            if (count < ACTS_ROOM) {
                count++;
            }
        }

        void takeBack(State state) {
            next = (next + ACTS_ROOM - 1) % ACTS_ROOM;
            state.copyFrom(before[next]);
            count--;
        }
    }

    /** What was told of men, ten times at most: of a man a thing (an hour, another man), and whether it is so. */
    private static final class Notes {
        final int[] man = new int[NOTES_ROOM];
        final int[] thing = new int[NOTES_ROOM];
        final boolean[] claim = new boolean[NOTES_ROOM];
        int count = 0;

        int add(int whose, int what, boolean is) {
            if (count >= NOTES_ROOM) {
                return NONE;
            }
            man[count] = whose;
            thing[count] = what;
            claim[count] = is;
            count++;
            return count;
        }
    }

    /** Who may have dreamt worse than was told, by what was seen in the first night. */
    private static final class Suspects {
        private static final int NOBODY = 9;

        private final Fort fort;
        private final Night first;
        private final Notes sightings;
        private final State trial;
        final int[] fitting = new int[MEN_ROOM + 1];
        /** By men, of each by hours: by how many of those who fit he is woken then. */
        private final int[] woken = new int[MEN_ROOM * HOURS_ROOM];
        int count = 0;

        Suspects(Fort fort, Night first, Notes sightings, State trial) {
            this.fort = fort;
            this.first = first;
            this.sightings = sightings;
            this.trial = trial;
        }

        void find(int growth) {
            count = 0;
            for (int k = 0; k < woken.length; k++) {
                woken[k] = 0;
            }
            for (int man = 0; man < fort.men; man++) {
                trial.copyFrom(fort.told);
                trial.dreams[man] += growth;
                consider(man);
            }
            trial.copyFrom(fort.told);
            consider(NOBODY);
        }

        private void consider(int suspect) {
            first.run(trial);
            if (!isAsSeen() || count >= fitting.length) {
                return;
            }
            fitting[count] = suspect;
            count++;
            for (int man = 0; man < fort.men; man++) {
                int hour = first.wokenAt[man];
                if (fort.hasHour(hour)) {
                    woken[man * HOURS_ROOM + hour]++;
                }
            }
        }

        private boolean isAsSeen() {
            for (int k = 0; k < sightings.count; k++) {
                int man = sightings.man[k];
                boolean isWoken = fort.hasMan(man) && first.wokenAt[man] == sightings.thing[k];
                if (isWoken != sightings.claim[k]) {
                    return false;
                }
            }
            return true;
        }

        int hourThatParts() {
            if (count == 0) {
                return NONE;
            }
            int found = NONE;
            int least = count + 1;
            for (int man = 0; man < fort.men; man++) {
                for (int hour = 0; hour < fort.hours; hour++) {
                    int apart = Math.abs(count - 2 * woken[man * HOURS_ROOM + hour]);
                    if (apart < least) {
                        least = apart;
                        found = 10 * man + hour;
                    }
                }
            }
            return found;
        }
    }

    /**
     * Beds by which nobody sleeps unwatched: neighbours in the ring must not share an hour. Going round
     * the ring with the fewest changes for each bed of the latest man keeps the work small.
     */
    private static final class Stagger {
        private static final int MANY = 100;

        private final Fort fort;
        private final State now;
        private final int[] manAt = new int[MEN_ROOM];
        private final int[] fixed = new int[MEN_ROOM];
        private final int[] changes = new int[HOURS_ROOM];
        private final int[] nextChanges = new int[HOURS_ROOM];

        Stagger(Fort fort, State now) {
            this.fort = fort;
            this.now = now;
        }

        /** How many men must have another bed; NONE: no beds do. */
        int fewestChanges() {
            begin();
            int fewest = goRound();
            return fewest < MANY ? fewest : NONE;
        }

        int leastRow() {
            begin();
            int fewest = goRound();
            if (fewest >= MANY) {
                return NONE;
            }
            int row = 0;
            for (int man = 0; man < fort.men; man++) {
                row = row * 10 + fixLeastBed(man, fewest);
            }
            return row;
        }

        private void begin() {
            for (int man = 0; man < fort.men; man++) {
                fixed[man] = NONE;
                int place = now.place[man];
                if (place >= 0 && place < MEN_ROOM) {
                    manAt[place] = man;
                }
            }
        }

        private int fixLeastBed(int man, int fewest) {
            for (int bed = 0; bed < fort.hours; bed++) {
                fixed[man] = bed;
                if (goRound() == fewest) {
                    return bed;
                }
            }
            return 0;
        }

        private int goRound() {
            int fewest = MANY;
            for (int bed = 0; bed < fort.hours; bed++) {
                if (mayHave(manAt[0], bed)) {
                    fewest = Math.min(fewest, goRoundFrom(bed));
                }
            }
            return fewest;
        }

        private int goRoundFrom(int firstBed) {
            for (int bed = 0; bed < fort.hours; bed++) {
                changes[bed] = bed == firstBed ? changesBy(manAt[0], bed) : MANY;
            }
            for (int place = 1; place < fort.men; place++) {
                goOn(manAt[place - 1], manAt[place]);
            }
            int last = manAt[fort.men - 1];
            int fewest = MANY;
            for (int bed = 0; bed < fort.hours; bed++) {
                if (changes[bed] < fewest && areApart(last, bed, manAt[0], firstBed)) {
                    fewest = changes[bed];
                }
            }
            return fewest;
        }

        private void goOn(int guard, int man) {
            for (int bed = 0; bed < fort.hours; bed++) {
                int fewest = MANY;
                if (mayHave(man, bed)) {
                    for (int other = 0; other < fort.hours; other++) {
                        if (changes[other] < fewest && areApart(guard, other, man, bed)) {
                            fewest = changes[other];
                        }
                    }
                }
                nextChanges[bed] = fewest < MANY ? fewest + changesBy(man, bed) : MANY;
            }
            System.arraycopy(nextChanges, 0, changes, 0, HOURS_ROOM);
        }

        private boolean mayHave(int man, int bed) {
            return bed + fort.needs[man] <= fort.hours && (fixed[man] == NONE || fixed[man] == bed);
        }

        private int changesBy(int man, int bed) {
            return now.bed[man] == bed ? 0 : 1;
        }

        private boolean areApart(int one, int bed, int other, int otherBed) {
            int needs = fort.needs[one];
            int otherNeeds = fort.needs[other];
            return needs == 0 || otherNeeds == 0 || bed + needs <= otherBed || otherBed + otherNeeds <= bed;
        }
    }
}
