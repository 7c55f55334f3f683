/**
 * Where the tape begins: a roll of tape whose end has lain down on itself, and those who seek it.
 * The words in capitals are those of the document; every refusal is an answer.
 */
public final class TapeEnd {
    public static final int NONE = -1000000, BAD = -1000001, STATE = -1000002, FULL = -1000003;

    private static final int FINDING_BASE = -1000010;
    private static final int FAULT_BASE = -1000100;

    private static final int NULL = 1;
    private static final int PLACE = 2;
    private static final int KIND = 3;
    private static final int SIZE = 4;
    private static final int STORE = 5;

    private static final int ROWS = 8;
    private static final int MOST_ITEMS = 40;
    private static final int MOST_BYTES = 120;
    private static final int MOST_PLACES = 12;
    private static final int MOST_RIDGES = 4;
    private static final int MOST_SEEKERS = 4;
    private static final int MOST_TOUCHES = 10;
    private static final int MOST_ACTS = 24;
    private static final int MOST_TRACED = 16;
    private static final int IMAGES = 2;

    private static final int WHOLE_WIDTH = 20;
    private static final int LAST_WORD = 3;
    private static final int SEARCH_TOUCHES = 40;
    private static final int NO_END_ROUNDS = 4;
    private static final int MOST_FOLLOWERS = 99;
    private static final long DRAW_FACTOR = 16807L;
    private static final long DRAW_MODULUS = 2147483647L;

    private final Row[] rows = new Row[ROWS];
    private final Tape tape = new Tape();
    private final Trace trace = new Trace();
    /** A ROLL whose law has no PLACES stands for none: so every question finds it empty, not null. */
    private final Roll roll;
    /** Where a touch or a walk is tried out, so that what is only FORETOLD changes nothing. */
    private final Roll trial;
    private final Roll[] images = new Roll[IMAGES];
    private final Roll[] acts = new Roll[MOST_ACTS];
    private int oldestAct;
    private int actsKept;
    private int latestFault;
    private int latestFinding;

    public TapeEnd() {
        Law none = new Law();
        roll = new Roll(none);
        trial = new Roll(none);
        for (int i = 0; i < ROWS; i++) {
            rows[i] = new Row();
        }
        for (int i = 0; i < IMAGES; i++) {
            images[i] = new Roll(none);
        }
        for (int i = 0; i < MOST_ACTS; i++) {
            acts[i] = new Roll(none);
        }
    }

    // ---- rows

    public int row(int row, int lane, int n) {
        Row told = rowAt(row);
        if (told == null || !within(lane, 0, 2) || n > MOST_ITEMS) {
            return BAD;
        }
        if (n < 0) {
            return finding(SIZE);
        }
        told.lay(lane, n);
        return unfound(n);
    }

    public int set(int row, int i, int v) {
        Row told = rowAt(row);
        if (told == null) {
            return BAD;
        }
        if (told.missing) {
            return finding(NULL);
        }
        if (!told.holds(i, 1)) {
            return finding(PLACE);
        }
        return unfound(told.put(i, v));
    }

    public int copy(int a, int i, int b, int j, int n) {
        Row from = rowAt(a);
        Row to = rowAt(b);
        if (from == null || to == null) {
            return BAD;
        }
        if (from.missing || to.missing) {
            return finding(NULL);
        }
        if (from.lane != to.lane) {
            return finding(STORE);
        }
        if (!from.holds(i, n) || !to.holds(j, n)) {
            return finding(PLACE);
        }
        System.arraycopy(from.items, i, to.items, j, n);
        return unfound(n);
    }

    public int drop(int row) {
        Row told = rowAt(row);
        if (told == null) {
            return BAD;
        }
        if (told.missing) {
            return finding(NULL);
        }
        told.missing = true;
        return unfound(told.size);
    }

    // ---- what is told

    public int feed(int letter) {
        if (!within(letter, 0, 255)) {
            return BAD;
        }
        if (tape.size >= MOST_BYTES) {
            return FULL;
        }
        tape.append(letter);
        return tape.size;
    }

    public int roll() {
        Law law = tape.read();
        tape.size = 0;
        if (law == null) {
            latestFault = tape.wrong;
            return FAULT_BASE - tape.at;
        }
        roll.unwind(law);
        forgetActs();
        return law.places;
    }

    public int fault() {
        return latestFault;
    }

    public int undo() {
        if (actsKept < 1) {
            return STATE;
        }
        actsKept--;
        roll.become(acts[(oldestAct + actsKept) % MOST_ACTS]);
        return actsKept;
    }

    // ---- what is done

    public int touch(int seeker, int felt) {
        Seeker one = seekerAt(seeker);
        if (one == null || !within(felt, 0, 1)) {
            return BAD;
        }
        trial.become(roll);
        trial.takeTouch(one, felt);
        if (trial.together() == 0) {
            return STATE;
        }
        if (roll.touches >= MOST_TOUCHES) {
            return FULL;
        }
        keepAct();
        roll.become(trial);
        return roll.touches;
    }

    public int go(int n) {
        if (noRoll()) {
            return STATE;
        }
        if (!within(n, 1, 12)) {
            return BAD;
        }
        keepAct();
        roll.advance(n);
        return roll.place;
    }

    public int over() {
        if (noRoll()) {
            return STATE;
        }
        keepAct();
        roll.turn();
        return roll.way;
    }

    public int seek(int seeker) {
        Seeker one = seekerAt(seeker);
        if (one == null) {
            return BAD;
        }
        keepAct();
        roll.moveTo(one.nextPlace(roll));
        return roll.place;
    }

    public int fold(int place) {
        if (noRoll()) {
            return STATE;
        }
        if (!isPlace(place)) {
            return BAD;
        }
        keepAct();
        int before = roll.tab;
        roll.tab = place;
        return before;
    }

    public int nail(int what) {
        if (noRoll()) {
            return STATE;
        }
        switch (what) {
            case 0: return roll.place;
            case 1: return roll.way;
            case 2: return roll.seconds;
            case 3: return roll.touches;
            case 4: return roll.lastFelt;
            case 5: return roll.tab;
            default: return BAD;
        }
    }

    public int place(int place, int what) {
        if (!isPlace(place) || !within(what, 0, 1)) {
            return BAD;
        }
        return what == 0 ? roll.law.weights[place] : roll.law.chances[place];
    }

    public int seeker(int seeker, int what) {
        Seeker one = seekerAt(seeker);
        if (one == null) {
            return BAD;
        }
        switch (what) {
            case 0: return one.with;
            case 1: return one.against;
            case 2: return one.feel(roll.way);
            case 3: return one.nextPlace(roll);
            default: return BAD;
        }
    }

    public long likelihood(int place) {
        if (!isPlaceOrNone(place)) {
            return BAD;
        }
        return roll.likelihoods[place];
    }

    // ---- foretold

    public long likely(int place, int what) {
        if (!isPlaceOrNone(place) || !within(what, 0, 1)) {
            return BAD;
        }
        return lowest(roll.likelihoods[place], roll.together(), what);
    }

    public long felt(int seeker, int what) {
        Seeker one = seekerAt(seeker);
        if (one == null || !within(what, 0, 1)) {
            return BAD;
        }
        long together = roll.together();
        long here = roll.likelihoods[roll.place];
        long above = here * one.feel(roll.way) + (together - here) * roll.law.chances[roll.place];
        return lowest(above, 10 * together, what);
    }

    public int surest() {
        if (noRoll()) {
            return STATE;
        }
        return roll.likeliestBut(NONE);
    }

    public long mean(int seeker, int place, int way, int n, int what) {
        Seeker one = seekerAt(seeker);
        if (one == null || !isPlace(place) || !isWay(way) || !within(n, 1, 3) || !within(what, 0, 1)) {
            return BAD;
        }
        return lowest(roll.secondsOfAll(one, place, way, n), roll.together() * tens(n), what);
    }

    public int begin(int seeker, int n) {
        Seeker one = seekerAt(seeker);
        if (one == null || !within(n, 1, 3)) {
            return BAD;
        }
        // All these means are divided by the same number, so what stands above tells which is least.
        int best = 0;
        long least = roll.secondsOfAll(one, 0, 1, n);
        for (int k = 1; k < 2 * roll.law.places; k++) {
            long seconds = roll.secondsOfAll(one, k / 2, k % 2 == 0 ? 1 : -1, n);
            if (seconds < least) {
                least = seconds;
                best = k;
            }
        }
        return best;
    }

    public int noEnd(int seeker, int way, int a) {
        Seeker one = seekerAt(seeker);
        if (one == null || !isWay(way) || !within(a, 0, 99)) {
            return BAD;
        }
        long none = roll.likelihoods[roll.law.places];
        long somewhere = roll.together() - none;
        int unfelt = 10 - one.feel(way);
        for (int rounds = 0; rounds <= NO_END_ROUNDS; rounds++) {
            // Multiplied out: where nothing at all is left, the end is not likelier than a of 100.
            if (100 * somewhere <= a * (somewhere + none)) {
                return rounds;
            }
            somewhere *= unfelt;
            none *= 10;
        }
        return NONE;
    }

    public int width(int w, int s, int side, int n) {
        if (!isSplinter(w, s, side) || !within(n, 0, 40)) {
            return BAD;
        }
        return widthBehind(w, s, side, n);
    }

    public int lost(int w, int s, int side) {
        if (!isSplinter(w, s, side)) {
            return BAD;
        }
        int sum = 0;
        for (int n = 0; n < WHOLE_WIDTH; n++) {
            int left = widthBehind(w, s, side, n);
            if (left <= 0 || left >= WHOLE_WIDTH) {
                break;
            }
            sum += WHOLE_WIDTH - left;
        }
        return sum;
    }

    public int pays(int seeker, int f) {
        Seeker one = seekerAt(seeker);
        if (one == null || !within(f, 0, 99)) {
            return BAD;
        }
        long below = 10 * roll.together();
        long saved = roll.secondsOfAll(one, 0, 1, 1) - below;
        for (int followers = 0; followers <= MOST_FOLLOWERS; followers++) {
            if (followers * saved >= f * below) {
                return followers;
            }
        }
        return NONE;
    }

    public int whose(int row, int i, int n) {
        if (noRoll()) {
            return STATE;
        }
        Row told = rowAt(row);
        if (told == null || !within(n, 1, 6)) {
            return BAD;
        }
        if (told.missing) {
            return finding(NULL);
        }
        if (!told.holds(i, n)) {
            return finding(PLACE);
        }
        if (!told.areUpTo(i, n, roll.law.places - 1)) {
            return BAD;
        }
        int bits = 0;
        for (int k = 0; k < roll.law.seekersTold; k++) {
            if (goesSo(seekerAt(k), told, i, n)) {
                bits |= 1 << k;
            }
        }
        return unfound(bits);
    }

    public long rule(int seeker, int row, int n, int m, int what) {
        Seeker one = seekerAt(seeker);
        Row words = rowAt(row);
        if (one == null || words == null || !within(n, 1, 8) || !within(m, 1, 6) || !within(what, 0, 2)) {
            return BAD;
        }
        if (words.missing) {
            return finding(NULL);
        }
        if (!words.holds(0, n)) {
            return finding(PLACE);
        }
        if (!words.areUpTo(0, n, LAST_WORD)) {
            return BAD;
        }
        latestFinding = 0;
        walkByWords(one, words, n, m);
        if (what == 2) {
            return trial.seconds - roll.seconds;
        }
        long below = roll.together() * tens(m);
        return lowest(below - trial.together(), below, what);
    }

    public int search(int seeker, int seed, int what) {
        Seeker one = seekerAt(seeker);
        if (one == null || !within(seed, 1, 999999) || !within(what, 0, 1)) {
            return BAD;
        }
        Law law = roll.law;
        long x = nextDraw(seed);
        int end = law.placeOfDraw(x);
        for (int k = 0; k < SEARCH_TOUCHES; k++) {
            int here = law.around(k);
            x = nextDraw(x);
            int chance = here == end ? one.feel(1) : law.chances[here];
            if (x % 10 < chance) {
                return what == 0 ? k + 1 : here == end ? 1 : 0;
            }
        }
        return NONE;
    }

    public int image(int k) {
        if (!within(k, 0, IMAGES - 1)) {
            return BAD;
        }
        if (noRoll()) {
            return STATE;
        }
        images[k].become(roll);
        return 1;
    }

    public int restore(int k) {
        if (!within(k, 0, IMAGES - 1)) {
            return BAD;
        }
        if (images[k].law.places == 0) {
            return STATE;
        }
        roll.become(images[k]);
        forgetActs();
        return 1;
    }

    // ---- asked

    public int kind(int one) {
        Seeker asked = seekerAt(one);
        return asked == null ? BAD : asked.kindTold();
    }

    public int as(int one, int kind) {
        Seeker taken = seekerAt(one);
        if (taken == null || !within(kind, 0, 5)) {
            return BAD;
        }
        if (!isOfKind(taken, kind)) {
            return finding(KIND);
        }
        return unfound(taken.number);
    }

    public int ask(int one, int what) {
        Seeker asked = seekerAt(one);
        if (asked == null || !within(what, 0, 1)) {
            return BAD;
        }
        trace.size = 0;
        return what == 0 ? asked.askSize(trace) : asked.askMark(trace);
    }

    public int trace(int i) {
        return within(i, 0, trace.size - 1) ? trace.numbers[i] : NONE;
    }

    public int count(int what) {
        switch (what) {
            case 0: return rowsThere();
            case 1: return roll.law.places;
            case 2: return roll.law.ridges;
            case 3: return roll.law.seekersTold;
            case 4: return actsKept;
            case 5: return tape.size;
            default: return BAD;
        }
    }

    public int status() {
        return latestFinding;
    }

    // ---- what the calls share

    private int finding(int number) {
        latestFinding = number;
        return FINDING_BASE - number;
    }

    private int unfound(int answer) {
        latestFinding = 0;
        return answer;
    }

    private boolean noRoll() {
        return roll.law.places == 0;
    }

    private boolean isPlace(int place) {
        return within(place, 0, roll.law.places - 1);
    }

    /** Without a ROLL there is not even none, though 0 would be the number behind the last PLACE. */
    private boolean isPlaceOrNone(int place) {
        return !noRoll() && within(place, 0, roll.law.places);
    }

    private Row rowAt(int row) {
        return within(row, 0, ROWS - 1) ? rows[row] : null;
    }

    private Seeker seekerAt(int seeker) {
        return within(seeker, 0, roll.law.seekersTold - 1) ? roll.law.seekers[seeker] : null;
    }

    private int rowsThere() {
        int there = 0;
        for (int i = 0; i < ROWS; i++) {
            if (!rows[i].missing) {
                there++;
            }
        }
        return there;
    }

    /** Keeps the ROLL as it is ahead of an ACT: a LIKELIHOOD that became 0 could not be divided back. */
    private void keepAct() {
        if (actsKept >= MOST_ACTS) {
            oldestAct = (oldestAct + 1) % MOST_ACTS;
            actsKept--;
        }
        acts[(oldestAct + actsKept) % MOST_ACTS].become(roll);
        actsKept++;
    }

    private void forgetActs() {
        oldestAct = 0;
        actsKept = 0;
    }

    private boolean goesSo(Seeker one, Row told, int from, int n) {
        if (one == null) {
            return false;
        }
        trial.become(roll);
        trial.place = told.items[from];
        for (int k = 1; k < n; k++) {
            trial.takeTouch(one, 0);
            int next = told.items[from + k];
            if (one.nextPlace(trial) != next) {
                return false;
            }
            trial.place = next;
        }
        return true;
    }

    /** Leaves in the trial what is left of each LIKELIHOOD without the end felt, and the SECONDS. */
    private void walkByWords(Seeker one, Row words, int n, int m) {
        trial.become(roll);
        int word = 0;
        for (int k = 0; k < m; k++) {
            if (k > 0) {
                trial.follow(words.items[word]);
                word = word + 1 < n ? word + 1 : 0;
            }
            trial.weigh(10 - one.feel(trial.way), 10);
            trial.seconds++;
        }
    }

    private static boolean within(int number, int least, int most) {
        return number >= least && number <= most;
    }

    private static boolean isWay(int way) {
        return way == 1 || way == -1;
    }

    private static boolean isSplinter(int w, int s, int side) {
        return within(w, 1, 19) && within(s, 1, 9) && within(side, 0, 1);
    }

    private static int widthBehind(int w, int s, int side, int n) {
        return side == 0 ? Math.max(0, w - s * n) : Math.min(WHOLE_WIDTH, w + s * n);
    }

    private static long nextDraw(long x) {
        return x * DRAW_FACTOR % DRAW_MODULUS;
    }

    private static long tens(int n) {
        long power = 1;
        for (int i = 0; i < n; i++) {
            power *= 10;
        }
        return power;
    }

    /** What stands above (what 0) or below (1) in lowest terms. */
    private static long lowest(long above, long below, int what) {
        long shared = greatestDivisor(above, below);
        if (shared == 0) {
            return what;
        }
        return (what == 0 ? above : below) / shared;
    }

    private static long greatestDivisor(long a, long b) {
        // Two longs need fewer than a hundred steps.
        for (int step = 0; step < 100 && b != 0; step++) {
            long rest = a % b;
            a = b;
            b = rest;
        }
        return a;
    }

    private static boolean isOfKind(Seeker one, int kind) {
        switch (kind) {
            case 0: return true;
            case 1: return one instanceof Round;
            case 2: return one instanceof Back;
            case 3: return one instanceof Lamp;
            case 4: return one instanceof Likeliest;
            case 5: return one instanceof Tabs;
            default: return false;
        }
    }

    /** A ROW: its ITEMS have room for the longest, so that it can be laid anew without a new array. */
    private static final class Row {
        final int[] items = new int[MOST_ITEMS];
        boolean missing = true;
        int lane;
        int size;

        void lay(int newLane, int n) {
            missing = false;
            lane = newLane;
            size = n;
            for (int i = 0; i < MOST_ITEMS; i++) {
                items[i] = 0;
            }
        }

        /** Whether n ITEMS from i on are there; as longs, since the sum of two ints may wrap. */
        boolean holds(int i, int n) {
            return i >= 0 && n >= 0 && (long) i + n <= size;
        }

        boolean areUpTo(int i, int n, int most) {
            for (int k = i; k < i + n; k++) {
                if (!within(items[k], 0, most)) {
                    return false;
                }
            }
            return true;
        }

        int put(int i, int v) {
            items[i] = lane == 0 ? (byte) v : lane == 1 ? (short) v : v;
            return items[i];
        }
    }

    /**
     * THE TAPE and its reading. Behind a FAULT nothing more is taken,
     * so that "at" stays at the TOKEN that has it.
     */
    private static final class Tape {
        final int[] bytes = new int[MOST_BYTES];
        int size;
        int at;
        int wrong;

        void append(int letter) {
            if (size < MOST_BYTES) {
                bytes[size] = letter;
                size++;
            }
        }

        /** The law of the ROLL that is told; null at a FAULT. */
        Law read() {
            at = 0;
            wrong = 0;
            Law law = new Law();
            readLaw(law);
            readPlaces(law);
            // One turn more than there is room for: that one finds the FAULT.
            for (int k = 0; k <= MOST_RIDGES && letterHere() == 'r'; k++) {
                readRidge(law);
            }
            for (int k = 0; k <= MOST_SEEKERS && isSort(letterHere()); k++) {
                readSeeker(law);
            }
            if (at < size) {
                fail(1);
            }
            return wrong == 0 ? law : null;
        }

        private void readLaw(Law law) {
            takeSign('o');
            law.places = takeNumber(4, MOST_PLACES);
            takeSign(',');
            law.step = takeNumber(0, 9);
            takeSign(',');
            law.over = takeNumber(0, 20);
            takeSign(',');
            law.missing = takeNumber(0, 9);
            takeSign(';');
        }

        private void readPlaces(Law law) {
            takeSign('p');
            for (int i = 0; i < law.places; i++) {
                if (i > 0) {
                    takeSign(',');
                }
                law.weights[i] = takeNumber(1, 9);
            }
            takeSign(';');
        }

        private void readRidge(Law law) {
            if (law.ridges >= MOST_RIDGES) {
                fail(3);
            }
            takeSign('r');
            int first = at;
            int place = takeNumber(0, law.places - 1);
            if (law.chances[place] != 0 && wrong == 0) {
                at = first;
                fail(2);
            }
            takeSign(',');
            int chance = takeNumber(1, 9);
            takeSign(';');
            if (wrong == 0) {
                law.chances[place] = chance;
                law.ridges++;
            }
        }

        private void readSeeker(Law law) {
            if (law.seekersTold >= MOST_SEEKERS) {
                fail(3);
            }
            int sort = letterHere();
            takeSign(sort);
            int with = takeNumber(0, 10);
            takeSign(',');
            int against = takeNumber(0, 10);
            takeSign(';');
            if (wrong == 0) {
                law.seekers[law.seekersTold] = seekerOf(sort, law.seekersTold, with, against);
                law.seekersTold++;
            }
        }

        private static Seeker seekerOf(int sort, int number, int with, int against) {
            switch (sort) {
                case 'b': return new Back(number, with, against);
                case 'l': return new Lamp(number, with, against);
                case 'm': return new Likeliest(number, with, against);
                case 't': return new Tabs(number, with, against);
                default: return new Round(number, with, against);
            }
        }

        private void fail(int number) {
            if (wrong == 0) {
                wrong = number;
            }
        }

        /** The byte that is next, or one that no byte is: at the end, or behind a FAULT. */
        private int letterHere() {
            return wrong == 0 && at < size ? bytes[at] : -1;
        }

        private void takeSign(int sign) {
            if (wrong == 0 && letterHere() == sign) {
                at++;
            } else {
                fail(1);
            }
        }

        /** 0 at a FAULT: that is within every array that a number read is used for. */
        private int takeNumber(int least, int most) {
            int figures = figuresHere();
            if (wrong != 0 || figures < 1 || figures > 2) {
                fail(1);
                return 0;
            }
            int number = 0;
            for (int i = at; i < at + figures; i++) {
                number = number * 10 + bytes[i] - '0';
            }
            if (number < least || number > most) {
                fail(2);
                return 0;
            }
            at += figures;
            return number;
        }

        private int figuresHere() {
            int end = at;
            while (end < size && bytes[end] >= '0' && bytes[end] <= '9') {
                end++;
            }
            return end - at;
        }

        private static boolean isSort(int letter) {
            return letter == 'u' || letter == 'b' || letter == 'l' || letter == 'm' || letter == 't';
        }
    }

    /** What a text told of a ROLL: not changed once it is read, so that images may share it. */
    private static final class Law {
        final int[] weights = new int[MOST_PLACES];
        final int[] chances = new int[MOST_PLACES];
        final Seeker[] seekers = new Seeker[MOST_SEEKERS];
        int places;
        int step;
        int over;
        int missing;
        int ridges;
        int seekersTold;

        int around(int place) {
            return places > 0 ? Math.floorMod(place, places) : 0;
        }

        /** Where the end is by a draw; the number behind the last PLACE, if there is none. */
        int placeOfDraw(long x) {
            int together = missing;
            for (int i = 0; i < places; i++) {
                together += weights[i];
            }
            long rest = together > 0 ? x % together : 0;
            for (int i = 0; i < places; i++) {
                if (rest < weights[i]) {
                    return i;
                }
                rest -= weights[i];
            }
            return places;
        }
    }

    /** A ROLL as it is at one time; ACTS, images and trials are copies of it. */
    private static final class Roll {
        final long[] likelihoods = new long[MOST_PLACES + 1];
        Law law;
        int place;
        int way = 1;
        int seconds;
        int touches;
        int lastFelt;
        int tab = NONE;

        Roll(Law law) {
            this.law = law;
        }

        void unwind(Law read) {
            law = read;
            place = 0;
            way = 1;
            seconds = 0;
            touches = 0;
            lastFelt = 0;
            tab = NONE;
            for (int i = 0; i < read.places; i++) {
                likelihoods[i] = read.weights[i];
            }
            likelihoods[read.places] = read.missing;
        }

        void become(Roll other) {
            law = other.law;
            place = other.place;
            way = other.way;
            seconds = other.seconds;
            touches = other.touches;
            lastFelt = other.lastFelt;
            tab = other.tab;
            System.arraycopy(other.likelihoods, 0, likelihoods, 0, MOST_PLACES + 1);
        }

        long together() {
            long sum = 0;
            for (int i = 0; i <= law.places; i++) {
                sum += likelihoods[i];
            }
            return sum;
        }

        void takeTouch(Seeker one, int felt) {
            int feel = one.feel(way);
            int chance = law.chances[place];
            if (felt == 1) {
                weigh(feel, chance);
            } else {
                weigh(10 - feel, 10 - chance);
            }
            seconds++;
            touches++;
            lastFelt = felt;
        }

        void weigh(int here, int elsewhere) {
            for (int i = 0; i <= law.places; i++) {
                likelihoods[i] *= i == place ? here : elsewhere;
            }
        }

        void advance(int n) {
            place = law.around(place + way * n);
            seconds += n * law.step;
        }

        void turn() {
            way = -way;
            seconds += law.over;
        }

        void moveTo(int next) {
            int apart = Math.abs(next - place);
            seconds += law.step * Math.min(apart, law.places - apart);
            place = next;
        }

        void follow(int word) {
            switch (word) {
                case 0:
                    advance(1);
                    break;
                case 1:
                    turn();
                    break;
                case 2:
                    advance(2);
                    break;
                default:
                    break;
            }
        }

        int likeliestBut(int except) {
            int best = 0;
            long greatest = -1;
            for (int i = 0; i < law.places; i++) {
                if (i != except && likelihoods[i] > greatest) {
                    greatest = likelihoods[i];
                    best = i;
                }
            }
            return best;
        }

        /** SECONDS by each LIKELIHOOD, added: the mean, times all LIKELIHOODS and a 10 for each round. */
        long secondsOfAll(Seeker one, int from, int wayRound, int rounds) {
            int feel = one.feel(wayRound);
            long sum = likelihoods[law.places] * tens(rounds) * secondsTill(rounds * law.places - 1);
            for (int k = 0; k < law.places; k++) {
                sum += likelihoods[law.around(from + wayRound * k)] * secondsIfAt(k, feel, rounds);
            }
            return sum;
        }

        /** Were the end at the k-th PLACE of a round: the mean of SECONDS, times a 10 for each round. */
        private long secondsIfAt(int k, int feel, int rounds) {
            long unfelt = 1;
            long sum = 0;
            for (int r = 0; r < rounds; r++) {
                sum += unfelt * feel * tens(rounds - 1 - r) * secondsTill(r * law.places + k);
                unfelt *= 10 - feel;
            }
            return sum + unfelt * secondsTill(rounds * law.places - 1);
        }

        private int secondsTill(int touch) {
            return 1 + touch * (law.step + 1);
        }
    }

    /** THE TRACE. */
    private static final class Trace {
        final int[] numbers = new int[MOST_TRACED];
        int size;

        void leave(int body) {
            if (size < MOST_TRACED) {
                numbers[size] = body;
                size++;
            }
        }
    }

    private abstract static class Seeker {
        final int number;
        final int with;
        final int against;

        Seeker(int number, int with, int against) {
            this.number = number;
            this.with = with;
            this.against = against;
        }

        abstract int kindTold();

        abstract int nextPlace(Roll roll);

        int feel(int way) {
            return way == 1 ? with : against;
        }

        int askSize(Trace trace) {
            trace.leave(10);
            return with;
        }

        int askMark(Trace trace) {
            trace.leave(20);
            return number;
        }
    }

    private static class Round extends Seeker {
        Round(int number, int with, int against) {
            super(number, with, against);
        }

        int kindTold() {
            return 1;
        }

        int nextPlace(Roll roll) {
            return roll.law.around(roll.place + roll.way);
        }

        int askSize(Trace trace) {
            trace.leave(11);
            int lent = super.askSize(trace);
            return lent + askMark(trace);
        }

        int askMark(Trace trace) {
            trace.leave(21);
            return super.askMark(trace) + against;
        }
    }

    private static final class Back extends Round {
        Back(int number, int with, int against) {
            super(number, with, against);
        }

        int kindTold() {
            return 2;
        }

        int nextPlace(Roll roll) {
            return roll.lastFelt == 1 ? roll.law.around(roll.place - roll.way) : super.nextPlace(roll);
        }

        int askSize(Trace trace) {
            trace.leave(12);
            return -super.askSize(trace);
        }

        int askMark(Trace trace) {
            trace.leave(24);
            return 2 * super.askMark(trace);
        }
    }

    private static final class Lamp extends Round {
        Lamp(int number, int with, int against) {
            super(number, with, against);
        }

        int kindTold() {
            return 3;
        }

        int feel(int way) {
            return Math.max(with, against);
        }

        int askMark(Trace trace) {
            trace.leave(22);
            return super.askMark(trace) - 1000;
        }
    }

    private static class Likeliest extends Seeker {
        Likeliest(int number, int with, int against) {
            super(number, with, against);
        }

        int kindTold() {
            return 4;
        }

        int nextPlace(Roll roll) {
            return roll.likeliestBut(roll.place);
        }

        int askSize(Trace trace) {
            trace.leave(13);
            return super.askSize(trace) - 100;
        }

        int askMark(Trace trace) {
            trace.leave(23);
            int lent = super.askMark(trace);
            return lent - askSize(trace);
        }
    }

    private static final class Tabs extends Likeliest {
        Tabs(int number, int with, int against) {
            super(number, with, against);
        }

        int kindTold() {
            return 5;
        }

        int nextPlace(Roll roll) {
            return roll.tab != NONE && roll.tab != roll.place ? roll.tab : super.nextPlace(roll);
        }

        int askSize(Trace trace) {
            trace.leave(14);
            return 2 * super.askSize(trace);
        }
    }
}
