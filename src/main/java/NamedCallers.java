import java.util.NoSuchElementException;

/** Callers who may stay only until a girl who stammers has announced them. */
public final class NamedCallers {
    public static final int NONE = -1;
    public static final int HIDDEN = -1000000;

    private static final int NO_SUCH_SORT = -2;

    private static final int SORT_HOUSE = 0;
    private static final int SORT_LAW = 1;
    private static final int SORT_AFTERNOON = 2;

    private static final int MOST_LODGERS = 4;
    private static final int MOST_CALLERS = 6;
    private static final int MOST_TEXTS = 4;
    private static final int MOST_TITLES = 3;
    private static final int MOST_HARDS = 5;
    private static final int MOST_BEATS = 60;
    private static final int MOST_HELD_UP = 20;
    private static final int MOST_YEARS = 30;
    private static final int MOST_WHIM = 9;
    private static final int MOST_GAIN = 9999;
    private static final int MOST_COINS = 999;
    private static final int LAST_DAY = 999;
    private static final int TITLE_PRICE = 2;
    private static final int BREATH_BEATS = 3;
    private static final int BREATH_REST = 2;
    private static final int CALLS_A_DAY = 3;
    private static final int ENVY = 2;

    // The first five are the numbers that promise 21 gives to the kinds of STEPS.
    private static final int ACT_ANNOUNCE = 0;
    private static final int ACT_TITLE = 1;
    private static final int ACT_SONG = 2;
    private static final int ACT_HOLD = 3;
    private static final int ACT_DAY = 4;
    private static final int ACT_DROP = 5;
    private static final int ACT_BREATH = 6;

    private static final int SYLLABLES = 0;
    private static final int HARDS = 1;
    private static final int TITLES = 2;
    private static final int BUSINESS = 3;
    private static final int WORTH = 4;
    private static final int WHOSE = 5;
    private static final int SOUNDS = 6;

    private final Tape tape = new Tape();
    private final Law[] laws = new Law[MOST_TEXTS + 1];
    private final Afternoon[] afternoons = new Afternoon[MOST_TEXTS + 1];
    private final Mat mat = new Mat();
    private final Past past = new Past();
    private final Diary diary = new Diary();
    private final Diary keptDiary = new Diary();
    private final Hearsay hearsay = new Hearsay();
    private final RowSearch search = new RowSearch();
    private final State now = new State();
    private final State apartState = new State();
    private final State kept = new State();
    private final Chance chances = new Chance();
    private final int[] prizes = new int[2 * (MOST_TITLES + 1)];
    private House house = new House();
    private House spareHouse = new House();
    private int lawCount = 0;
    private int afternoonCount = 0;
    private int ruling = NONE;
    private boolean isKept = false;

    public NamedCallers() {
        // One more than can be told of each: the one behind the last is where a TAPE is read for its FAULT.
        for (int i = 0; i <= MOST_TEXTS; i++) {
            laws[i] = new Law();
            afternoons[i] = new Afternoon();
        }
    }

    // ---- texts ----

    public int feed(int a, int b, int c, int d, int e) {
        int fresh = Tape.signsOf(a) + Tape.signsOf(b) + Tape.signsOf(c) + Tape.signsOf(d) + Tape.signsOf(e);
        if (!tape.hasRoomFor(fresh)) {
            return NONE;
        }
        tape.put(a);
        tape.put(b);
        tape.put(c);
        tape.put(d);
        tape.put(e);
        return tape.size();
    }

    public boolean end(int n) {
        return tape.cut(n);
    }

    public int fault(int sort) {
        switch (sort) {
            case SORT_HOUSE:
                return spareHouse.readFrom(tape);
            case SORT_LAW:
                return laws[lawCount].readFrom(tape);
            case SORT_AFTERNOON:
                return afternoons[afternoonCount].readFrom(tape);
            default:
                return NO_SUCH_SORT;
        }
    }

    public int text(int sort) {
        if (sort == SORT_LAW && lawCount >= MOST_TEXTS || sort == SORT_AFTERNOON && afternoonCount >= MOST_TEXTS) {
            return NONE;
        }
        if (fault(sort) != NONE) {
            return NONE;
        }
        tape.cut(0);
        switch (sort) {
            case SORT_HOUSE:
                moveIn();
                return house.callers();
            case SORT_LAW:
                lawCount++;
                return lawCount - 1;
            default:
                afternoonCount++;
                return afternoonCount - 1;
        }
    }

    private void moveIn() {
        House read = spareHouse;
        spareHouse = house;
        house = read;
        mat.useHouse(house);
        now.startIn(house);
        past.forget();
        hearsay.forget();
        isKept = false;
    }

    // ---- what is told ----

    public int rule(int what) {
        if (noHouse() || what < 0 || what > 2) {
            return NONE;
        }
        return what == 2 ? now.coins : house.ruleOf(what);
    }

    public int lodger(int lodger, int what) {
        if (noSuchLodger(lodger) || what < 0 || what > 2) {
            return NONE;
        }
        switch (what) {
            case 0:
                return house.wantsOf(lodger);
            case 1:
                return house.patienceOf(lodger);
            default:
                return house.patienceOf(lodger) - now.receivedBy(lodger);
        }
    }

    public int caller(int caller, int what) throws NoSuchElementException {
        if (noSuchCaller(caller) || what < 0 || what > 7) {
            throw new NoSuchElementException();
        }
        if (what == TITLES) {
            return now.titlesOf(caller);
        }
        if (what == 7) {
            return now.wasAnnounced(caller) ? 1 : 0;
        }
        return house.traitOf(caller, what);
    }

    public boolean law(int law) {
        if (law < NONE || law >= lawCount) {
            return false;
        }
        ruling = law;
        mat.useLaw(law == NONE ? null : laws[law]);
        return true;
    }

    public boolean whim(int v) {
        if (v < 0 || v > MOST_WHIM || v == chances.whimLimit) {
            return false;
        }
        chances.whimLimit = v;
        return true;
    }

    // ---- acts ----

    public int announce(int caller) {
        int doneBefore = now.done;
        return act(ACT_ANNOUNCE, caller) ? now.done - doneBefore : NONE;
    }

    public int title(int caller) {
        return act(ACT_TITLE, caller) ? now.titlesOf(caller) : NONE;
    }

    public int drop(int caller) {
        return act(ACT_DROP, caller) ? now.titlesOf(caller) : NONE;
    }

    public int sing() {
        return act(ACT_SONG, 0) ? now.sings : NONE;
    }

    public int breath() {
        return act(ACT_BREATH, 0) ? now.tired : NONE;
    }

    public int hold(int n) {
        return act(ACT_HOLD, n) ? now.clock : NONE;
    }

    public int day() {
        return act(ACT_DAY, 0) ? now.day : NONE;
    }

    public int years(int n, long seed) {
        if (noHouse() || n < 1 || n > MOST_YEARS || now.day + n > LAST_DAY) {
            return NONE;
        }
        chances.startFrom(seed);
        for (int i = 0; i < n; i++) {
            liveOneDay();
        }
        return now.day;
    }

    public int undo() {
        return past.bringBack(now) ? past.size() : NONE;
    }

    private boolean act(int kind, int value) {
        if (!mat.may(now, kind, value)) {
            return false;
        }
        past.remember(now);
        if (kind == ACT_DAY) {
            diary.write(now);
        }
        mat.carryOut(now, kind, value);
        return true;
    }

    private void liveOneDay() {
        past.remember(now);
        for (int i = 0; i < CALLS_A_DAY; i++) {
            int who = chances.draw(house.callers());
            if (mat.may(now, ACT_ANNOUNCE, who)) {
                mat.carryOut(now, ACT_ANNOUNCE, who);
            }
        }
        if (chances.draw(10) < chances.whimLimit) {
            int who = chances.draw(house.callers());
            now.setTitles(who, chances.draw(MOST_TITLES + 1));
        }
        diary.write(now);
        mat.carryOut(now, ACT_DAY, 0);
    }

    // ---- the log, afternoons ----

    public int log(int i, int what) {
        if (noHouse() || i < 0 || i >= Diary.lengthOn(now.day) || what < 0 || what > 2) {
            return NONE;
        }
        return diary.read(now.day - 1 - i, what);
    }

    public int step(int afternoon, int i, int what) {
        if (noSuchAfternoon(afternoon) || i < 0 || i >= afternoons[afternoon].steps() || what < 0 || what > 1) {
            return HIDDEN;
        }
        return what == 0 ? afternoons[afternoon].kindOf(i) : afternoons[afternoon].digitOf(i);
    }

    public int run(int afternoon, int what) {
        if (noHouse() || noSuchAfternoon(afternoon) || what < 0 || what > 1) {
            return HIDDEN;
        }
        Afternoon told = afternoons[afternoon];
        apartState.copyFrom(now);
        int steps = 0;
        while (steps < told.steps() && mat.may(apartState, told.kindOf(steps), told.digitOf(steps))) {
            mat.carryOut(apartState, told.kindOf(steps), told.digitOf(steps));
            steps++;
        }
        if (what == 1) {
            return apartState.gain - now.gain;
        }
        return steps == told.steps() ? NONE : steps;
    }

    public int perform(int afternoon) {
        if (noHouse() || noSuchAfternoon(afternoon)) {
            return NONE;
        }
        Afternoon told = afternoons[afternoon];
        int steps = 0;
        while (steps < told.steps() && act(told.kindOf(steps), told.digitOf(steps))) {
            steps++;
        }
        return steps;
    }

    // ---- names ----

    public int name(int caller, int what) {
        if (noSuchCaller(caller) || what < 0 || what > 1) {
            return NONE;
        }
        int beats = mat.beatsNow(now, caller);
        return what == 0 ? beats : mat.doneBy(caller, beats) ? 1 : 0;
    }

    public int order(int what) {
        if (noHouse() || what < 0 || what > 2) {
            return NONE;
        }
        search.find(mat, house, now);
        switch (what) {
            case 0:
                return search.bestRow();
            case 1:
                return search.bestGain();
            default:
                return search.bestClock();
        }
    }

    public int needs(int caller) {
        if (noSuchCaller(caller)) {
            return NONE;
        }
        for (int titles = 0; titles <= MOST_TITLES; titles++) {
            if (mat.doneBy(caller, mat.beatsTitled(now, caller, titles))) {
                return titles;
            }
        }
        return NONE;
    }

    public int timed(int b) {
        if (noHouse() || outOfBeats(b)) {
            return NONE;
        }
        int bits = 0;
        for (int caller = 0; caller < house.callers(); caller++) {
            if (mat.beatsNow(now, caller) == b) {
                bits |= 1 << caller;
            }
        }
        return bits;
    }

    // ---- what was heard ----

    public int heard(int caller, int b, boolean longer) {
        if (noSuchCaller(caller) || outOfBeats(b)) {
            return NONE;
        }
        return hearsay.add(caller, b, longer) ? hearsay.size() : NONE;
    }

    public int hards(int caller) {
        return noSuchCaller(caller) ? NONE : fittingHards(caller);
    }

    public int ask(int b) {
        if (noHouse() || outOfBeats(b)) {
            return NONE;
        }
        int best = NONE;
        int bestApart = MOST_HARDS + 2;
        for (int caller = 0; caller < house.callers(); caller++) {
            int fitting = fittingHards(caller);
            int apart = howFarApart(caller, fitting, b);
            if (fitting != 0 && apart < bestApart) {
                best = caller;
                bestApart = apart;
            }
        }
        return best;
    }

    private int fittingHards(int caller) {
        int bits = 0;
        for (int hards = 0; hards <= MOST_HARDS; hards++) {
            if (hearsay.fits(caller, mat.beatsHeard(caller, hards))) {
                bits |= 1 << hards;
            }
        }
        return bits;
    }

    private int howFarApart(int caller, int fitting, int b) {
        int apart = 0;
        for (int hards = 0; hards <= MOST_HARDS; hards++) {
            if ((fitting >> hards & 1) != 0) {
                apart += mat.beatsHeard(caller, hards) >= b ? 1 : -1;
            }
        }
        return Math.abs(apart);
    }

    public int apart(int callers) {
        if (noHouse() || callers < 0 || callers >= 1 << house.callers() || Integer.bitCount(callers) < 2) {
            return NONE;
        }
        if (allUnlike(callers, 10)) {
            return 1;
        }
        return allUnlike(callers, 1) ? 2 : NONE;
    }

    private boolean allUnlike(int callers, int unit) {
        for (int one = 0; one < house.callers(); one++) {
            for (int other = 0; other < one; other++) {
                boolean both = (callers >> one & 1) != 0 && (callers >> other & 1) != 0;
                if (both && soundsOf(one, unit) == soundsOf(other, unit)) {
                    return false;
                }
            }
        }
        return true;
    }

    private int soundsOf(int caller, int unit) {
        int sounds = house.traitOf(caller, SOUNDS);
        return unit == 10 ? sounds / 10 : sounds;
    }

    // ---- games and odds ----

    public int game(int one, int other, int x, int y, int what) {
        if (noSuchPair(one, other) || outOfTitles(x) || outOfTitles(y) || what < 0 || what > 1) {
            return HIDDEN;
        }
        return what == 0 ? share(prize(one, x, 0), x, y) : share(prize(other, y, 1), y, x);
    }

    public int rests(int one, int other, int i) {
        if (noSuchPair(one, other)) {
            return NONE;
        }
        for (int titles = 0; titles <= MOST_TITLES; titles++) {
            prizes[titles] = prize(one, titles, 0);
            prizes[MOST_TITLES + 1 + titles] = prize(other, titles, 1);
        }
        int found = 0;
        for (int x = 0; x <= MOST_TITLES; x++) {
            for (int y = 0; y <= MOST_TITLES; y++) {
                boolean rest = isBestAnswer(0, x, y) && isBestAnswer(MOST_TITLES + 1, y, x);
                if (rest && found == i) {
                    return 10 * x + y;
                }
                found += rest ? 1 : 0;
            }
        }
        return i == NONE ? found : NONE;
    }

    private int prize(int caller, int titles, int moreTired) {
        int beats = mat.beatsTired(now, caller, titles, now.tired + moreTired);
        return mat.doneBy(caller, beats) ? house.traitOf(caller, WORTH) : 0;
    }

    private static int share(int prize, int own, int others) {
        return prize - own - (others > own ? ENVY : 0);
    }

    private boolean isBestAnswer(int from, int own, int others) {
        int had = share(prizes[from + own], own, others);
        for (int titles = 0; titles <= MOST_TITLES; titles++) {
            if (share(prizes[from + titles], titles, others) > had) {
                return false;
            }
        }
        return true;
    }

    public int odds(int caller, int chance) {
        if (noSuchCaller(caller) || chance < 0 || chance > 100) {
            return NONE;
        }
        int hards = house.traitOf(caller, HARDS);
        chances.split(hards, chance);
        long done = 0;
        for (int slips = 0; slips <= hards; slips++) {
            if (mat.doneBy(caller, mat.beatsHard(now, caller, hards - slips))) {
                done += chances.partOf(slips);
            }
        }
        return (int) done;
    }

    public int mean(int caller) {
        if (noSuchCaller(caller)) {
            return NONE;
        }
        int sum = 0;
        for (int hards = 0; hards <= MOST_HARDS; hards++) {
            sum += mat.beatsHard(now, caller, hards);
        }
        return 100 * sum / (MOST_HARDS + 1);
    }

    // ---- all of them ----

    public int all(int what) {
        if (noHouse()) {
            return NONE;
        }
        switch (what) {
            case 0:
                return mat.beatsLeft(now);
            case 1:
            case 2:
            case 3:
            case 4:
            case 5:
                return foremost(what);
            case 6:
                return keenest();
            case 7:
                return dueCallers();
            case 8:
                return readyCallers();
            case 9:
                return beatsOfAll();
            default:
                return NONE;
        }
    }

    private int foremost(int what) {
        int best = 0;
        for (int caller = 1; caller < house.callers(); caller++) {
            if (rank(what, caller) > rank(what, best)) {
                best = caller;
            }
        }
        return best;
    }

    private int rank(int what, int caller) {
        switch (what) {
            case 1:
                return mat.beatsNow(now, caller);
            case 2:
                return -mat.beatsNow(now, caller);
            case 3:
                return house.traitOf(caller, WORTH);
            case 4:
                return house.traitOf(caller, BUSINESS);
            default:
                return now.titlesOf(caller);
        }
    }

    private int keenest() {
        int best = 0;
        for (int lodger = 1; lodger < house.lodgers(); lodger++) {
            if (house.wantsOf(lodger) > house.wantsOf(best)) {
                best = lodger;
            }
        }
        return best;
    }

    private int dueCallers() {
        int bits = 0;
        for (int caller = 0; caller < house.callers(); caller++) {
            if (mat.may(now, ACT_ANNOUNCE, caller)) {
                bits |= 1 << caller;
            }
        }
        return bits;
    }

    private int readyCallers() {
        int bits = 0;
        for (int caller = 0; caller < house.callers(); caller++) {
            if (mat.doneBy(caller, mat.beatsNow(now, caller))) {
                bits |= 1 << caller;
            }
        }
        return bits;
    }

    private int beatsOfAll() {
        int sum = 0;
        for (int caller = 0; caller < house.callers(); caller++) {
            sum += mat.beatsTired(now, caller, now.titlesOf(caller), now.tired + caller);
        }
        return sum;
    }

    public int whose(int lodger) {
        if (noSuchLodger(lodger)) {
            return NONE;
        }
        int bits = 0;
        for (int caller = 0; caller < house.callers(); caller++) {
            if (house.traitOf(caller, WHOSE) == lodger) {
                bits |= 1 << caller;
            }
        }
        return bits;
    }

    public int queue(int what) {
        if (noHouse() || what < 0 || what > 1) {
            return NONE;
        }
        apartState.copyFrom(now);
        int queued = now.announced;
        int row = 0;
        int admitted = 0;
        boolean open = true;
        for (int i = 0; i < house.callers(); i++) {
            int next = nextInQueue(queued);
            if (next == NONE) {
                break;
            }
            queued |= 1 << next;
            row = row * 10 + next;
            open = open && mat.may(apartState, ACT_ANNOUNCE, next);
            if (open) {
                mat.carryOut(apartState, ACT_ANNOUNCE, next);
                admitted++;
            }
        }
        if (what == 1) {
            return admitted;
        }
        return queued == now.announced ? NONE : row;
    }

    private int nextInQueue(int queued) {
        int best = NONE;
        int bestBeats = MOST_BEATS + 1;
        for (int caller = 0; caller < house.callers(); caller++) {
            if ((queued >> caller & 1) == 0 && mat.beatsNow(now, caller) < bestBeats) {
                best = caller;
                bestBeats = mat.beatsNow(now, caller);
            }
        }
        return best;
    }

    public int sung(int caller, int what) {
        if (noSuchCaller(caller) || what < 0 || what > 1) {
            return NONE;
        }
        return mat.beatsSung(now, caller, what == 0 ? 1 : 0);
    }

    public int span(int caller) {
        if (noSuchCaller(caller) || mat.beatsNow(now, caller) > mat.beatsLeft(now)) {
            return NONE;
        }
        int titles = now.titlesOf(caller);
        int best = titles;
        for (int more = titles + 1; more <= MOST_TITLES; more++) {
            if (mat.beatsTitled(now, caller, more) <= mat.beatsLeft(now)) {
                best = more;
            }
        }
        return best - titles;
    }

    // ---- images, counts ----

    public int image() {
        if (noHouse()) {
            return NONE;
        }
        kept.copyFrom(now);
        keptDiary.copyFrom(diary);
        isKept = true;
        return now.day;
    }

    public int back() {
        if (!isKept) {
            return NONE;
        }
        now.copyFrom(kept);
        diary.copyFrom(keptDiary);
        past.forget();
        return now.day;
    }

    public int count(int what) {
        switch (what) {
            case 0:
                return house.callers();
            case 1:
                return house.lodgers();
            case 2:
                return lawCount;
            case 3:
                return afternoonCount;
            case 4:
                return tape.size();
            case 5:
                return ruling;
            case 6:
                return now.day;
            case 7:
                return now.clock;
            case 8:
                return now.tired;
            case 9:
                return now.sings;
            case 10:
                return now.gain;
            case 11:
                return now.done;
            case 12:
                return chances.whimLimit;
            case 13:
                return hearsay.size();
            case 14:
                return Diary.lengthOn(now.day);
            case 15:
                return past.size();
            default:
                return HIDDEN;
        }
    }

    // ---- what is refused ----

    private boolean noHouse() {
        return house.callers() == 0;
    }

    private boolean noSuchCaller(int caller) {
        return caller < 0 || caller >= house.callers();
    }

    private boolean noSuchPair(int one, int other) {
        return noSuchCaller(one) || noSuchCaller(other) || one == other;
    }

    private boolean noSuchLodger(int lodger) {
        return lodger < 0 || lodger >= house.lodgers();
    }

    private boolean noSuchAfternoon(int afternoon) {
        return afternoon < 0 || afternoon >= afternoonCount;
    }

    private static boolean outOfBeats(int b) {
        return b < 1 || b > MOST_BEATS;
    }

    private static boolean outOfTitles(int titles) {
        return titles < 0 || titles > MOST_TITLES;
    }

    /** The bytes that were fed, and how far they have been read. */
    private static final class Tape {
        static final int ROOM = 240;
        /** Stands for what is behind the last byte: no byte of 0 ever comes to the tape. */
        static final int END = 0;

        private final int[] bytes = new int[ROOM];
        private int length = 0;
        private int at = 0;
        private int fault = NONE;

        static int signsOf(int word) {
            int signs = 0;
            for (int shift = 24; shift >= 0; shift -= 8) {
                signs += (word >>> shift & 255) != 0 ? 1 : 0;
            }
            return signs;
        }

        boolean hasRoomFor(int fresh) {
            return length + fresh <= ROOM;
        }

        void put(int word) {
            for (int shift = 24; shift >= 0; shift -= 8) {
                int sign = word >>> shift & 255;
                if (sign != 0 && length < ROOM) {
                    bytes[length] = sign;
                    length++;
                }
            }
        }

        boolean cut(int n) {
            if (n < 0 || n > length) {
                return false;
            }
            length = n;
            return true;
        }

        int size() {
            return length;
        }

        void rewind() {
            at = 0;
            fault = NONE;
        }

        int faultFound() {
            return fault;
        }

        boolean failed() {
            return fault != NONE;
        }

        void fail() {
            // Only the first one counts; a reader may run on a little behind it.
            if (fault == NONE) {
                fault = at;
            }
        }

        void failAtLastDigit() {
            if (fault == NONE) {
                fault = at - 1;
            }
        }

        /** The next sign behind blanks; behind a fault nothing more, so that all readers come to their end. */
        int peek() {
            if (fault != NONE) {
                return END;
            }
            while (at < length && bytes[at] == ' ') {
                at++;
            }
            return at < length ? bytes[at] : END;
        }

        private int here() {
            return at < length ? bytes[at] : END;
        }

        void pass() {
            if (at < length) {
                at++;
            }
        }

        void demand(int sign) {
            if (peek() == sign) {
                pass();
            } else {
                fail();
            }
        }

        /** Whether a ; leads on to another clause or step. */
        boolean goesOn() {
            int sign = peek();
            if (sign == END) {
                return false;
            }
            demand(';');
            return !failed();
        }

        static boolean isDigit(int sign) {
            return sign >= '0' && sign <= '9';
        }

        int number(int mostDigits) {
            if (!isDigit(peek())) {
                fail();
                return 0;
            }
            int value = 0;
            for (int i = 0; i < mostDigits && isDigit(here()); i++) {
                value = value * 10 + (here() - '0');
                at++;
            }
            if (isDigit(here())) {
                fail();
            }
            return value;
        }

        int digit() {
            int sign = peek();
            if (!isDigit(sign)) {
                fail();
                return 0;
            }
            pass();
            return sign - '0';
        }
    }

    /** What a HOUSE tells; one without CALLERS is no HOUSE. */
    private static final class House {
        private static final String RULE_LETTERS = "thc";
        private static final int[] RULE_LEAST = {1, 0, 0};
        private static final int[] RULE_MOST = {99, 9, 99};
        private static final int[] RULE_PLAIN = {60, 2, 20};
        private static final String LODGER_LETTERS = "wp";
        private static final int[] LODGER_LEAST = {0, 0};
        private static final int[] LODGER_MOST = {9, 9};
        private static final int[] LODGER_PLAIN = {2, 3};
        private static final String CALLER_LETTERS = "nptbwla";
        private static final int[] CALLER_LEAST = {1, 0, 0, 1, 0, 0, 0};
        private static final int[] CALLER_MOST = {9, 5, 3, 30, 9, 3, 99};
        private static final int[] CALLER_PLAIN = {3, 1, 0, 5, 3, 0, 0};
        private static final int RULE_WIDTH = 3;
        private static final int LODGER_WIDTH = 2;
        private static final int CALLER_WIDTH = 7;
        private static final int MOST_CLAUSES = 1 + MOST_LODGERS + MOST_CALLERS;

        private final int[] rules = new int[RULE_WIDTH];
        private final int[] lodgerItems = new int[MOST_LODGERS * LODGER_WIDTH];
        private final int[] callerItems = new int[MOST_CALLERS * CALLER_WIDTH];
        private boolean rulesTold = false;
        private int lodgerCount = 0;
        private int callerCount = 0;

        int callers() {
            return callerCount;
        }

        int lodgers() {
            return lodgerCount;
        }

        int ruleOf(int what) {
            return what >= 0 && what < rules.length ? rules[what] : 0;
        }

        int beats() {
            return rules[0];
        }

        int hardBeats() {
            return rules[1];
        }

        int coins() {
            return rules[2];
        }

        int wantsOf(int lodger) {
            return lodgerItem(lodger, 0);
        }

        int patienceOf(int lodger) {
            return lodgerItem(lodger, 1);
        }

        private int lodgerItem(int lodger, int what) {
            return lodger >= 0 && lodger < lodgerCount ? lodgerItems[lodger * LODGER_WIDTH + what] : 0;
        }

        int traitOf(int caller, int what) {
            boolean told = caller >= 0 && caller < callerCount && what >= 0 && what < CALLER_WIDTH;
            return told ? callerItems[caller * CALLER_WIDTH + what] : 0;
        }

        int readFrom(Tape tape) {
            rulesTold = false;
            lodgerCount = 0;
            callerCount = 0;
            System.arraycopy(RULE_PLAIN, 0, rules, 0, RULE_WIDTH);
            tape.rewind();
            boolean more = true;
            for (int i = 0; more && i <= MOST_CLAUSES; i++) {
                readClause(tape);
                more = tape.goesOn();
            }
            if (!tape.failed() && !isWhole()) {
                tape.fail();
            }
            return tape.faultFound();
        }

        private boolean isWhole() {
            for (int caller = 0; caller < callerCount; caller++) {
                if (traitOf(caller, WHOSE) >= lodgerCount) {
                    return false;
                }
            }
            return lodgerCount > 0 && callerCount > 0;
        }

        private void readClause(Tape tape) {
            switch (tape.peek()) {
                case 's':
                    readRules(tape);
                    break;
                case 'l':
                    readLodger(tape);
                    break;
                case 'v':
                    readCaller(tape);
                    break;
                default:
                    tape.fail();
            }
        }

        private void readRules(Tape tape) {
            if (rulesTold) {
                tape.fail();
                return;
            }
            rulesTold = true;
            tape.pass();
            readItems(tape, RULE_LETTERS, RULE_LEAST, RULE_MOST, rules, 0);
        }

        private void readLodger(Tape tape) {
            if (lodgerCount >= MOST_LODGERS) {
                tape.fail();
                return;
            }
            tape.pass();
            int from = lodgerCount * LODGER_WIDTH;
            System.arraycopy(LODGER_PLAIN, 0, lodgerItems, from, LODGER_WIDTH);
            lodgerCount++;
            readItems(tape, LODGER_LETTERS, LODGER_LEAST, LODGER_MOST, lodgerItems, from);
        }

        private void readCaller(Tape tape) {
            if (callerCount >= MOST_CALLERS) {
                tape.fail();
                return;
            }
            tape.pass();
            int from = callerCount * CALLER_WIDTH;
            System.arraycopy(CALLER_PLAIN, 0, callerItems, from, CALLER_WIDTH);
            callerCount++;
            readItems(tape, CALLER_LETTERS, CALLER_LEAST, CALLER_MOST, callerItems, from);
        }

        private static void readItems(Tape tape, String letters, int[] least, int[] most, int[] items, int from) {
            int seen = 0;
            // One turn more than letters: a letter told twice is met in it at the latest.
            for (int i = 0; i <= letters.length(); i++) {
                int which = letters.indexOf((char) tape.peek());
                if (which < 0) {
                    return;
                }
                if ((seen >> which & 1) != 0) {
                    tape.fail();
                    return;
                }
                seen |= 1 << which;
                tape.pass();
                int value = tape.number(2);
                if (tape.failed()) {
                    return;
                }
                if (value < least[which] || value > most[which]) {
                    tape.failAtLastDigit();
                    return;
                }
                items[from + which] = value;
            }
        }
    }

    /** A LAW as a row of orders for a stack, so that it is read but once. */
    private static final class Law {
        private static final String LETTERS = "nptgsd";
        private static final int MOST_NESTED = 6;
        private static final int MOST_VALUE = 1000000;
        private static final int NUMBER = 0;
        private static final int LETTER = 1;
        private static final int PLUS = 2;
        private static final int MINUS = 3;
        private static final int TIMES = 4;
        private static final int OVER = 5;
        private static final int EQUAL = 6;
        private static final int LESS = 7;
        private static final int MORE = 8;
        private static final int AND = 9;
        private static final int OR = 10;
        private static final int NOT = 11;
        private static final int UNLESS = 12;
        private static final int ANSWER = 13;

        private final int[] code = new int[Tape.ROOM + 1];
        private final int[] stack = new int[40];
        private int length = 0;
        private int top = 0;

        int readFrom(Tape tape) {
            length = 0;
            tape.rewind();
            boolean more = true;
            for (int i = 0; more && i <= Tape.ROOM; i++) {
                readClause(tape);
                more = tape.goesOn();
            }
            return tape.faultFound();
        }

        private void readClause(Tape tape) {
            tape.demand('y');
            tape.demand(':');
            int sign = tape.peek();
            boolean begun = sign != '!' && sign != '(';
            if (begun) {
                readSum(tape, 0);
                if (relationOf(tape.peek()) == NONE) {
                    emit(ANSWER, 0);
                    return;
                }
            }
            readCondition(tape, 0, begun);
            tape.demand('?');
            int jump = length;
            emit(UNLESS, 0);
            readSum(tape, 0);
            emit(ANSWER, 0);
            if (jump < code.length) {
                code[jump] = UNLESS | length << 8;
            }
        }

        // begun: the first SUM was read before it could be seen that it opens a CONDITION.
        private void readCondition(Tape tape, int depth, boolean begun) {
            readTruth(tape, depth, begun);
            for (int i = 0; i < Tape.ROOM && tape.peek() == '|'; i++) {
                tape.pass();
                readTruth(tape, depth, false);
                emit(OR, 0);
            }
        }

        private void readTruth(Tape tape, int depth, boolean begun) {
            readUnit(tape, depth, begun);
            for (int i = 0; i < Tape.ROOM && tape.peek() == '&'; i++) {
                tape.pass();
                readUnit(tape, depth, false);
                emit(AND, 0);
            }
        }

        private void readUnit(Tape tape, int depth, boolean begun) {
            int sign = tape.peek();
            boolean nested = !begun && (sign == '!' || sign == '(');
            if (nested && depth >= MOST_NESTED) {
                tape.fail();
            } else if (nested && sign == '!') {
                tape.pass();
                readUnit(tape, depth + 1, false);
                emit(NOT, 0);
            } else if (nested) {
                tape.pass();
                readCondition(tape, depth + 1, false);
                tape.demand(')');
            } else {
                if (!begun) {
                    readSum(tape, depth);
                }
                int relation = relationOf(tape.peek());
                if (relation == NONE) {
                    tape.fail();
                    return;
                }
                tape.pass();
                readSum(tape, depth);
                emit(relation, 0);
            }
        }

        private static int relationOf(int sign) {
            return sign == '=' ? EQUAL : sign == '<' ? LESS : sign == '>' ? MORE : NONE;
        }

        private void readSum(Tape tape, int depth) {
            readTerm(tape, depth);
            int sign = tape.peek();
            for (int i = 0; i < Tape.ROOM && (sign == '+' || sign == '-'); i++) {
                tape.pass();
                readTerm(tape, depth);
                emit(sign == '+' ? PLUS : MINUS, 0);
                sign = tape.peek();
            }
        }

        private void readTerm(Tape tape, int depth) {
            readAtom(tape, depth);
            int sign = tape.peek();
            for (int i = 0; i < Tape.ROOM && (sign == '*' || sign == '/'); i++) {
                tape.pass();
                readAtom(tape, depth);
                emit(sign == '*' ? TIMES : OVER, 0);
                sign = tape.peek();
            }
        }

        private void readAtom(Tape tape, int depth) {
            int sign = tape.peek();
            int letter = LETTERS.indexOf((char) sign);
            if (letter >= 0) {
                tape.pass();
                emit(LETTER, letter);
            } else if (Tape.isDigit(sign)) {
                emit(NUMBER, tape.number(4));
            } else if (sign == '[' && depth < MOST_NESTED) {
                tape.pass();
                readSum(tape, depth + 1);
                tape.demand(']');
            } else {
                tape.fail();
            }
        }

        private void emit(int order, int value) {
            if (length < code.length) {
                code[length] = order | value << 8;
                length++;
            }
        }

        /** The WORTH for letters n p t g s d. */
        int worth(int[] letters) {
            top = 0;
            int next = 0;
            for (int i = 0; i < length; i++) {
                int order = code[i] & 255;
                int value = code[i] >>> 8;
                if (i < next) {
                    continue;
                }
                switch (order) {
                    case ANSWER:
                        return pop();
                    case UNLESS:
                        next = pop() == 0 ? value : next;
                        break;
                    case NUMBER:
                        push(value);
                        break;
                    case LETTER:
                        push(value < letters.length ? letters[value] : 0);
                        break;
                    case NOT:
                        push(1 - pop());
                        break;
                    default:
                        int right = pop();
                        int left = pop();
                        push(joined(order, left, right));
                }
            }
            return 0;
        }

        private void push(long value) {
            if (top < stack.length) {
                stack[top] = value > MOST_VALUE ? MOST_VALUE : value < -MOST_VALUE ? -MOST_VALUE : (int) value;
                top++;
            }
        }

        private int pop() {
            if (top <= 0) {
                return 0;
            }
            top--;
            return stack[top];
        }

        private static long joined(int order, long left, long right) {
            switch (order) {
                case PLUS:
                    return left + right;
                case MINUS:
                    return left - right;
                case TIMES:
                    return left * right;
                case OVER:
                    return right == 0 ? 0 : left / right;
                case EQUAL:
                    return left == right ? 1 : 0;
                case LESS:
                    return left < right ? 1 : 0;
                case MORE:
                    return left > right ? 1 : 0;
                case AND:
                    return left & right;
                default:
                    return left | right;
            }
        }
    }

    /** The STEPS of an AFTERNOON. */
    private static final class Afternoon {
        private static final int MOST_STEPS = 16;
        private static final String KINDS = "ctghd";

        private final int[] kinds = new int[MOST_STEPS];
        private final int[] digits = new int[MOST_STEPS];
        private int stepCount = 0;

        int steps() {
            return stepCount;
        }

        int kindOf(int i) {
            return i >= 0 && i < stepCount ? kinds[i] : NONE;
        }

        int digitOf(int i) {
            return i >= 0 && i < stepCount ? digits[i] : NONE;
        }

        int readFrom(Tape tape) {
            stepCount = 0;
            tape.rewind();
            boolean more = true;
            for (int i = 0; more && i < MOST_STEPS; i++) {
                readStep(tape);
                if (stepCount == MOST_STEPS && tape.peek() == ';') {
                    tape.fail();
                }
                more = tape.goesOn();
            }
            return tape.faultFound();
        }

        private void readStep(Tape tape) {
            int kind = KINDS.indexOf((char) tape.peek());
            if (kind < 0 || stepCount >= MOST_STEPS) {
                tape.fail();
                return;
            }
            tape.pass();
            boolean hasDigit = kind == ACT_ANNOUNCE || kind == ACT_TITLE || kind == ACT_HOLD;
            kinds[stepCount] = kind;
            digits[stepCount] = hasDigit ? tape.digit() : NONE;
            stepCount++;
        }
    }

    /** All that ACTS change, but for the LOG. */
    private static final class State {
        private static final int RECEIVED_AT = 8;
        private static final int TITLES_AT = RECEIVED_AT + MOST_LODGERS;
        static final int WIDTH = TITLES_AT + MOST_CALLERS;

        int clock = 0;
        int announced = 0;
        int done = 0;
        int tired = 0;
        int sings = 0;
        int gain = 0;
        int coins = 0;
        int day = 0;
        final int[] received = new int[MOST_LODGERS];
        final int[] titles = new int[MOST_CALLERS];

        void startIn(House house) {
            startDay();
            sings = 0;
            gain = 0;
            coins = house.coins();
            day = 0;
            for (int i = 0; i < MOST_CALLERS; i++) {
                titles[i] = house.traitOf(i, TITLES);
            }
        }

        void startDay() {
            clock = 0;
            announced = 0;
            done = 0;
            tired = 0;
            for (int i = 0; i < MOST_LODGERS; i++) {
                received[i] = 0;
            }
        }

        boolean wasAnnounced(int caller) {
            return caller >= 0 && caller < MOST_CALLERS && (announced >> caller & 1) != 0;
        }

        int titlesOf(int caller) {
            return caller >= 0 && caller < MOST_CALLERS ? titles[caller] : 0;
        }

        void setTitles(int caller, int number) {
            if (caller >= 0 && caller < MOST_CALLERS) {
                titles[caller] = number;
            }
        }

        int receivedBy(int lodger) {
            return lodger >= 0 && lodger < MOST_LODGERS ? received[lodger] : 0;
        }

        void receive(int lodger) {
            if (lodger >= 0 && lodger < MOST_LODGERS) {
                received[lodger]++;
            }
        }

        void copyFrom(State other) {
            clock = other.clock;
            announced = other.announced;
            done = other.done;
            tired = other.tired;
            sings = other.sings;
            gain = other.gain;
            coins = other.coins;
            day = other.day;
            System.arraycopy(other.received, 0, received, 0, MOST_LODGERS);
            System.arraycopy(other.titles, 0, titles, 0, MOST_CALLERS);
        }

        void saveTo(int[] rows, int from) {
            if (from < 0 || from + WIDTH > rows.length) {
                return;
            }
            rows[from] = clock;
            rows[from + 1] = announced;
            rows[from + 2] = done;
            rows[from + 3] = tired;
            rows[from + 4] = sings;
            rows[from + 5] = gain;
            rows[from + 6] = coins;
            rows[from + 7] = day;
            System.arraycopy(received, 0, rows, from + RECEIVED_AT, MOST_LODGERS);
            System.arraycopy(titles, 0, rows, from + TITLES_AT, MOST_CALLERS);
        }

        void loadFrom(int[] rows, int from) {
            if (from < 0 || from + WIDTH > rows.length) {
                return;
            }
            clock = rows[from];
            announced = rows[from + 1];
            done = rows[from + 2];
            tired = rows[from + 3];
            sings = rows[from + 4];
            gain = rows[from + 5];
            coins = rows[from + 6];
            day = rows[from + 7];
            System.arraycopy(rows, from + RECEIVED_AT, received, 0, MOST_LODGERS);
            System.arraycopy(rows, from + TITLES_AT, titles, 0, MOST_CALLERS);
        }
    }

    /** How long NAMES take, and which ACTS can be and what they do, on any STATE of one HOUSE. */
    private static final class Mat {
        private final int[] letters = new int[6];
        private House house = null;
        private Law law = null;

        void useHouse(House told) {
            house = told;
        }

        void useLaw(Law told) {
            law = told;
        }

        int beatsNow(State s, int caller) {
            return beats(caller, hardsOf(caller), s.titlesOf(caller), s.tired, s.sings, s.day);
        }

        int beatsTitled(State s, int caller, int titles) {
            return beats(caller, hardsOf(caller), titles, s.tired, s.sings, s.day);
        }

        int beatsTired(State s, int caller, int titles, int tired) {
            return beats(caller, hardsOf(caller), titles, tired, s.sings, s.day);
        }

        int beatsSung(State s, int caller, int sings) {
            return beats(caller, hardsOf(caller), s.titlesOf(caller), s.tired, sings, s.day);
        }

        int beatsHard(State s, int caller, int hards) {
            return beats(caller, hards, s.titlesOf(caller), s.tired, s.sings, s.day);
        }

        private int hardsOf(int caller) {
            return house == null ? 0 : house.traitOf(caller, HARDS);
        }

        int beatsHeard(int caller, int hards) {
            return beats(caller, hards, 0, 0, 0, 0);
        }

        private int beats(int caller, int hards, int titles, int tired, int sings, int day) {
            if (house == null) {
                return 1;
            }
            int syllables = house.traitOf(caller, SYLLABLES);
            int worth;
            if (law == null) {
                int sounds = syllables + hards * house.hardBeats() + 2 * titles;
                worth = (sings == 1 ? sounds / 2 : sounds) + tired / 2;
            } else {
                letters[0] = syllables;
                letters[1] = hards;
                letters[2] = titles;
                letters[3] = tired;
                letters[4] = sings;
                letters[5] = day;
                worth = law.worth(letters);
            }
            return Math.max(1, Math.min(MOST_BEATS, worth));
        }

        boolean doneBy(int caller, int beats) {
            return house != null && beats >= house.traitOf(caller, BUSINESS);
        }

        int beatsLeft(State s) {
            return house == null ? 0 : house.beats() - s.clock;
        }

        boolean may(State s, int kind, int value) {
            if (house == null) {
                return false;
            }
            boolean isCaller = value >= 0 && value < house.callers();
            switch (kind) {
                case ACT_ANNOUNCE:
                    return isCaller && mayAnnounce(s, value);
                case ACT_TITLE:
                    return isCaller && s.titlesOf(value) < MOST_TITLES && s.coins >= TITLE_PRICE;
                case ACT_DROP:
                    return isCaller && s.titlesOf(value) > 0;
                case ACT_SONG:
                    return true;
                case ACT_BREATH:
                    return s.tired > 0 && BREATH_BEATS <= beatsLeft(s);
                case ACT_HOLD:
                    return value >= 1 && value <= MOST_HELD_UP && value <= beatsLeft(s);
                case ACT_DAY:
                    return s.day < LAST_DAY;
                default:
                    return false;
            }
        }

        private boolean mayAnnounce(State s, int caller) {
            int lodger = house.traitOf(caller, WHOSE);
            return !s.wasAnnounced(caller)
                && s.receivedBy(lodger) < house.patienceOf(lodger)
                && beatsNow(s, caller) <= beatsLeft(s);
        }

        /** Only behind may. */
        void carryOut(State s, int kind, int value) {
            switch (kind) {
                case ACT_ANNOUNCE:
                    putOnMat(s, value);
                    break;
                case ACT_TITLE:
                    s.coins -= TITLE_PRICE;
                    s.setTitles(value, s.titlesOf(value) + 1);
                    break;
                case ACT_DROP:
                    s.setTitles(value, s.titlesOf(value) - 1);
                    break;
                case ACT_SONG:
                    s.sings = 1 - s.sings;
                    break;
                case ACT_BREATH:
                    s.clock += BREATH_BEATS;
                    s.tired = Math.max(0, s.tired - BREATH_REST);
                    break;
                case ACT_HOLD:
                    s.clock += value;
                    break;
                case ACT_DAY:
                    s.coins = Math.min(MOST_COINS, s.coins + s.done);
                    s.day++;
                    s.startDay();
                    break;
                default:
                    break;
            }
        }

        private void putOnMat(State s, int caller) {
            if (house == null) {
                return;
            }
            int beats = beatsNow(s, caller);
            int lodger = house.traitOf(caller, WHOSE);
            s.clock += beats;
            s.announced |= 1 << caller;
            s.receive(lodger);
            s.tired++;
            if (doneBy(caller, beats)) {
                s.done++;
                s.gain = Math.min(MOST_GAIN, s.gain + gainOf(caller));
            }
        }

        int gainOf(int caller) {
            if (house == null) {
                return 0;
            }
            return house.traitOf(caller, WORTH) + house.wantsOf(house.traitOf(caller, WHOSE));
        }
    }

    /** The STATES ahead of the latest ACTS. */
    private static final class Past {
        static final int DEPTH = 40;

        private final int[] rows = new int[DEPTH * State.WIDTH];
        private int next = 0;
        private int stored = 0;

        void remember(State s) {
            s.saveTo(rows, next * State.WIDTH);
            next = next + 1 < DEPTH ? next + 1 : 0;
            stored = Math.min(DEPTH, stored + 1);
        }

        boolean bringBack(State s) {
            if (stored == 0) {
                return false;
            }
            next = next > 0 ? next - 1 : DEPTH - 1;
            stored--;
            s.loadFrom(rows, next * State.WIDTH);
            return true;
        }

        void forget() {
            next = 0;
            stored = 0;
        }

        int size() {
            return stored;
        }
    }

    /** The LOG, by DAYS: as each DAY adds one entry, the DAY itself tells how long it is, UNDONE or not. */
    private static final class Diary {
        private static final int LATEST = 60;
        /** So many that behind all UNDONE DAYS the latest 60 are still there. */
        private static final int ROWS = LATEST + Past.DEPTH;
        private static final int WIDTH = 3;

        private final int[] rows = new int[ROWS * WIDTH];

        static int lengthOn(int day) {
            return Math.min(LATEST, day);
        }

        void write(State s) {
            int from = Math.floorMod(s.day, ROWS) * WIDTH;
            rows[from] = s.done;
            rows[from + 1] = s.announced;
            rows[from + 2] = s.clock;
        }

        int read(int day, int what) {
            boolean told = what >= 0 && what < WIDTH;
            return told ? rows[Math.floorMod(day, ROWS) * WIDTH + what] : NONE;
        }

        void copyFrom(Diary other) {
            System.arraycopy(other.rows, 0, rows, 0, rows.length);
        }
    }

    /** What was HEARD of NAMES. */
    private static final class Hearsay {
        private static final int MOST = 10;

        private final int[] callers = new int[MOST];
        private final int[] bounds = new int[MOST];
        private final boolean[] longer = new boolean[MOST];
        private int stored = 0;

        boolean add(int caller, int bound, boolean tookLonger) {
            if (stored >= MOST) {
                return false;
            }
            callers[stored] = caller;
            bounds[stored] = bound;
            longer[stored] = tookLonger;
            stored++;
            return true;
        }

        boolean fits(int caller, int beats) {
            for (int i = 0; i < stored; i++) {
                if (callers[i] == caller && beats >= bounds[i] != longer[i]) {
                    return false;
                }
            }
            return true;
        }

        void forget() {
            stored = 0;
        }

        int size() {
            return stored;
        }
    }

    /** Draws, and how likely it is that HARD sounds slip. */
    private static final class Chance {
        private static final long DRAW_FACTOR = 6364136223846793005L;
        private static final long DRAW_SUMMAND = 1442695040888963407L;
        private static final long ALL_PARTS = 1000000000L;

        // One part for each way in which the sounds slip or not: bits of those that slip.
        private final long[] parts = new long[1 << MOST_HARDS];
        private long drawn = 0;
        int whimLimit = 1;

        void startFrom(long seed) {
            drawn = seed;
        }

        int draw(int j) {
            drawn = drawn * DRAW_FACTOR + DRAW_SUMMAND;
            return j > 0 ? (int) ((drawn >>> 33) % j) : 0;
        }

        void split(int hards, int chance) {
            for (int way = 0; way < parts.length; way++) {
                parts[way] = 0;
            }
            parts[0] = ALL_PARTS;
            for (int sound = 0; sound < hards && sound < MOST_HARDS; sound++) {
                int ways = 1 << sound;
                // Each way is cut by itself; ways with equally many slips, put together first, would be cut otherwise.
                for (int way = 0; way < ways; way++) {
                    long slip = parts[way] * chance / 100;
                    parts[way] -= slip;
                    parts[ways + way] = slip;
                }
            }
        }

        long partOf(int slips) {
            long sum = 0;
            for (int way = 0; way < parts.length; way++) {
                sum += Integer.bitCount(way) == slips ? parts[way] : 0;
            }
            return sum;
        }
    }

    /** Looks through all rows of CALLERS for the ORDER. */
    private static final class RowSearch {
        // How long each NAME takes depends on the place in the row alone: it is asked once for each.
        private final int[] beats = new int[MOST_CALLERS * MOST_CALLERS];
        private final int[] gains = new int[MOST_CALLERS * MOST_CALLERS];
        private final int[] lodgers = new int[MOST_CALLERS];
        private final int[] rooms = new int[MOST_LODGERS];
        private int callerCount = 0;
        private int lastBeat = 0;
        private int row = 0;
        private int length = 0;
        private int gain = 0;
        private int clock = 0;

        int bestRow() {
            return length == 0 ? NONE : row;
        }

        int bestGain() {
            return gain;
        }

        int bestClock() {
            return clock;
        }

        void find(Mat mat, House house, State s) {
            callerCount = Math.min(MOST_CALLERS, house.callers());
            lastBeat = house.beats();
            for (int lodger = 0; lodger < MOST_LODGERS; lodger++) {
                rooms[lodger] = house.patienceOf(lodger) - s.receivedBy(lodger);
            }
            for (int caller = 0; caller < callerCount; caller++) {
                lodgers[caller] = house.traitOf(caller, WHOSE);
                for (int place = 0; place < MOST_CALLERS; place++) {
                    int takes = mat.beatsTired(s, caller, s.titlesOf(caller), s.tired + place);
                    beats[place * MOST_CALLERS + caller] = takes;
                    gains[place * MOST_CALLERS + caller] = mat.doneBy(caller, takes) ? mat.gainOf(caller) : 0;
                }
            }
            row = 0;
            length = 0;
            gain = 0;
            clock = s.clock;
            extend(s.announced, 0, 0, s.clock, 0);
        }

        private void extend(int used, int soFar, int place, int clockThen, int gainThen) {
            if (isBetter(soFar, place, clockThen, gainThen)) {
                row = soFar;
                length = place;
                clock = clockThen;
                gain = gainThen;
            }
            if (place >= MOST_CALLERS) {
                return;
            }
            for (int caller = 0; caller < callerCount; caller++) {
                int at = place * MOST_CALLERS + caller;
                int lodger = lodgers[caller];
                boolean received = lodger >= 0 && lodger < MOST_LODGERS && rooms[lodger] > 0;
                if (received && (used >> caller & 1) == 0 && clockThen + beats[at] <= lastBeat) {
                    rooms[lodger]--;
                    int longer = soFar * 10 + caller;
                    extend(used | 1 << caller, longer, place + 1, clockThen + beats[at], gainThen + gains[at]);
                    rooms[lodger]++;
                }
            }
        }

        private boolean isBetter(int soFar, int place, int clockThen, int gainThen) {
            if (gainThen != gain) {
                return gainThen > gain;
            }
            if (clockThen != clock) {
                return clockThen < clock;
            }
            if (place != length) {
                return place < length;
            }
            return soFar < row;
        }
    }
}
