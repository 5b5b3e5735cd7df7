import java.util.Arrays;

/** Saints in a ring of niches who hand their attributes on; the document's promises stand in ../shared/DOC.md. */
public final class NicheSaints {
    public static final int NONE = -1000000, BAD = -1000001, STATE = -1000002, FULL = -1000003;

    private static final int FINDINGS = -1000010;
    private static final int MISSING = 1, NO_PLACE = 2, OTHER_KIND = 3, BELOW_NONE = 4, TWO_LANES = 5;
    private static final int FAULTS = -1000100;

    private static final int ROWS = 8, LANES = 3, MOST_ITEMS = 40;
    private static final int MOST_BYTES = 50;
    private static final int MOST_SAINTS = 7, MOST_THING = 9, MOST_NIGHT = 9;
    private static final int MOST_STEPS = 24, LAST_STEP = 9999, MOST_ACTS = 24;
    private static final int FAR = 60, FARTHEST_ROUND = 200, MOST_CLUES = 12;
    private static final int MOST_NEIGHBOUR_CHANGES = 21, LAST_PAIR = 56;
    private static final int IMAGES = 2, MOST_SEED = 999999;
    private static final int MOST_TRACED = 16, DEEPEST_BODY = 16;

    private static final int SAINT = 0, GIVER = 1, SHY = 2, PROUD = 3, HOLD = 4, HOOD = 5;
    /** The KIND that each KIND is, too; SAINT is no other. */
    private static final int[] WIDER = {-1, SAINT, GIVER, GIVER, SAINT, HOLD};
    private static final int[] SIZE_BODY = {10, 11, 12, 11, 13, 14};
    private static final int[] MARK_BODY = {20, 21, 24, 22, 23, 23};

    private final Shelf[] shelves = new Shelf[ROWS];
    private final Tape tape = new Tape();
    private final Ring now = new Ring();
    private final Ring trial = new Ring();
    private final Ring[] images = new Ring[IMAGES];
    private final Acts acts = new Acts();
    private final Goal goal = new Goal();
    private final Orders orders = new Orders();
    private final Asking asking = new Asking();
    private final int[] planned = new int[2];
    private int finding;

    public NicheSaints() {
        for (int i = 0; i < ROWS; i++) {
            shelves[i] = new Shelf();
        }
        for (int k = 0; k < IMAGES; k++) {
            images[k] = new Ring();
        }
    }

    // ---- rows

    public int row(int row, int lane, int n) {
        if (!isRow(row) || lane < 0 || lane >= LANES || n > MOST_ITEMS) {
            return BAD;
        }
        if (n < 0) {
            return found(BELOW_NONE);
        }
        finding = 0;
        shelves[row].lay(lane, n);
        return n;
    }

    public int set(int row, int i, int v) {
        if (!isRow(row)) {
            return BAD;
        }
        int wrong = findingOf(row, i, 1);
        if (wrong != 0) {
            return found(wrong);
        }
        finding = 0;
        return shelves[row].put(i, v);
    }

    public int copy(int a, int i, int b, int j, int n) {
        if (!isRow(a) || !isRow(b)) {
            return BAD;
        }
        Shelf from = shelves[a];
        Shelf to = shelves[b];
        if (from.isMissing() || to.isMissing()) {
            return found(MISSING);
        }
        if (from.lane != to.lane) {
            return found(TWO_LANES);
        }
        if (!from.has(i, n) || !to.has(j, n)) {
            return found(NO_PLACE);
        }
        finding = 0;
        System.arraycopy(from.items, i, to.items, j, n);
        return n;
    }

    public int drop(int row) {
        if (!isRow(row)) {
            return BAD;
        }
        if (shelves[row].isMissing()) {
            return found(MISSING);
        }
        finding = 0;
        return shelves[row].clear();
    }

    // ---- saints, acts

    public int feed(int letter) {
        if (letter < 0 || letter > 255) {
            return BAD;
        }
        return tape.add(letter) ? tape.size : FULL;
    }

    public int saints() {
        int place = tape.read();
        if (place >= 0) {
            return FAULTS - place;
        }
        now.become(tape.draft);
        acts.forget();
        return now.size;
    }

    public int fault() {
        return tape.fault;
    }

    public int steps(int n) {
        if (now.size == 0) {
            return STATE;
        }
        if (n < 1 || n > MOST_STEPS) {
            return BAD;
        }
        if (now.step + n > LAST_STEP) {
            return FULL;
        }
        for (int i = 0; i < n; i++) {
            acts.keep(now);
            now.advance(0);
        }
        return now.step;
    }

    public int swap(int one, int other) {
        if (!now.isSaint(one) || !now.isSaint(other) || one == other) {
            return BAD;
        }
        acts.keep(now);
        now.exchange(one, other);
        return 10 * now.things[one] + now.things[other];
    }

    public int night(int v) {
        if (now.size == 0) {
            return STATE;
        }
        if (v < 1 || v > MOST_NIGHT) {
            return BAD;
        }
        int was = now.night;
        acts.keep(now);
        now.night = v;
        return was;
    }

    public int undo() {
        if (acts.size == 0) {
            return STATE;
        }
        acts.takeBack(now);
        return acts.size;
    }

    public int saint(int saint, int what) {
        if (!now.isSaint(saint) || !isFirstOrSecond(what)) {
            return BAD;
        }
        if (what == 0) {
            return now.things[saint];
        }
        return now.lets(saint) ? 1 : 0;
    }

    public int holder(int thing) {
        return isThing(thing) ? now.whoHas(thing) : BAD;
    }

    // ---- foretold

    public int ahead(int saint, int d) {
        if (!now.isSaint(saint) || d < 0 || d > FAR) {
            return BAD;
        }
        trial.become(now);
        for (int i = 0; i < d; i++) {
            trial.advance(0);
        }
        return trial.things[saint];
    }

    public int when(int saint, int thing) {
        if (!now.isSaint(saint) || !isThing(thing)) {
            return BAD;
        }
        trial.become(now);
        for (int d = 0; d <= FAR; d++) {
            if (trial.things[saint] == thing) {
                return d;
            }
            trial.advance(0);
        }
        return NONE;
    }

    public int pray(int thing) {
        if (now.size == 0) {
            return STATE;
        }
        if (!isThing(thing)) {
            return BAD;
        }
        trial.become(now);
        trial.advanceToMatins();
        return trial.whoHas(thing);
    }

    public int round() {
        if (now.size == 0) {
            return STATE;
        }
        int first = now.figures();
        trial.become(now);
        for (int d = 1; d <= FARTHEST_ROUND; d++) {
            trial.advance(0);
            if (trial.figures() == first) {
                return d;
            }
        }
        return NONE;
    }

    public int home(int what) {
        if (now.size == 0) {
            return STATE;
        }
        switch (what) {
            case 0:
                return now.atHome();
            case 1:
                return orders.placeOf(now);
            case 2:
                return orders.howMany(now);
            default:
                return BAD;
        }
    }

    public int swaps(int row, int i, int what) {
        if (now.size == 0) {
            return STATE;
        }
        if (!isRow(row) || !isFirstOrSecond(what)) {
            return BAD;
        }
        int wrong = findingOf(row, i, now.size);
        if (wrong != 0) {
            return found(wrong);
        }
        finding = 0;
        if (!goal.take(now, shelves[row], i)) {
            return NONE;
        }
        return what == 0 ? goal.fewestChanges(now) : goal.evenOrOdd(now);
    }

    public int sort(int row, int i, int k) {
        if (now.size == 0) {
            return STATE;
        }
        if (!isRow(row) || k < -1) {
            return BAD;
        }
        int wrong = findingOf(row, i, now.size);
        if (wrong != 0) {
            return found(wrong);
        }
        finding = 0;
        if (!goal.take(now, shelves[row], i)) {
            return NONE;
        }
        return k < 0 ? goal.neighbourChanges(now) : goal.neighbourChange(now, k);
    }

    public int plan(int saint, int thing, int k) {
        if (!now.isSaint(saint) || !isThing(thing) || k < -1 || k > 1) {
            return BAD;
        }
        int changes = fewestByHand(saint, thing);
        if (changes < 0) {
            return NONE;
        }
        if (k < 0) {
            return changes;
        }
        return k < changes ? planned[k] : NONE;
    }

    public int fits(int saint, int row, int i, int n, int what) {
        if (!areCluesAsTold(saint, row, n, what)) {
            return BAD;
        }
        int wrong = findingOf(row, i, n);
        if (wrong != 0) {
            return found(wrong);
        }
        finding = 0;
        return what == 0 ? kindsThatFit(saint, row, i, n) : nightsThatFit(saint, row, i, n);
    }

    public int began(int saint, int row, int i, int n, int what) {
        if (!areCluesAsTold(saint, row, n, what)) {
            return BAD;
        }
        int wrong = findingOf(row, i, n);
        if (wrong != 0) {
            return found(wrong);
        }
        finding = 0;
        return ordersThatFit(saint, row, i, n, what);
    }

    public int sleep(int saint, int thing, int c, int what) {
        if (!now.isSaint(saint) || thing < 0 || thing > MOST_THING || c < 0 || c > 10 || !isFirstOrSecond(what)) {
            return BAD;
        }
        int above = 0;
        for (int asleep = 0; asleep < 1 << now.size; asleep++) {
            trial.become(now);
            trial.advance(asleep);
            if (trial.things[saint] == thing) {
                int sleepers = Integer.bitCount(asleep);
                above += power(c, sleepers) * power(10 - c, now.size - sleepers);
            }
        }
        int below = power(10, now.size);
        int shared = commonDivisor(above, below);
        if (shared <= 0) {
            return BAD;
        }
        return what == 0 ? above / shared : below / shared;
    }

    public int drawn(int n, int seed, int what) {
        if (now.size == 0) {
            return STATE;
        }
        if (n < 0 || n > FAR || seed < 1 || seed > MOST_SEED || !isFirstOrSecond(what)) {
            return BAD;
        }
        trial.become(now);
        long x = seed;
        int hooded = 0;
        for (int i = 0; i < n; i++) {
            x = x * 16807L % 2147483647L;
            int chosen = (int) (x % now.size);
            trial.exchange(chosen, trial.after(chosen));
            trial.advance(0);
            if (trial.hasHoodWithThing()) {
                hooded++;
            }
        }
        return what == 0 ? trial.figures() : hooded;
    }

    public int image(int k) {
        if (k < 0 || k >= IMAGES) {
            return BAD;
        }
        if (now.size == 0) {
            return STATE;
        }
        images[k].become(now);
        return 1;
    }

    public int restore(int k) {
        if (k < 0 || k >= IMAGES) {
            return BAD;
        }
        if (images[k].size == 0) {
            return STATE;
        }
        now.become(images[k]);
        acts.forget();
        return 1;
    }

    // ---- asked

    public int kind(int saint) {
        return now.isSaint(saint) ? now.kinds[saint] : BAD;
    }

    public int as(int saint, int kind) {
        if (!now.isSaint(saint) || kind < SAINT || kind > HOOD) {
            return BAD;
        }
        if (!isOfKind(now.kinds[saint], kind)) {
            return found(OTHER_KIND);
        }
        finding = 0;
        return saint;
    }

    public int ask(int saint, int what) {
        if (!now.isSaint(saint) || !isFirstOrSecond(what)) {
            return BAD;
        }
        return asking.answer(now, saint, what);
    }

    public int trace(int i) {
        return i >= 0 && i < asking.traced ? asking.trail[i] : NONE;
    }

    public int count(int what) {
        switch (what) {
            case 0:
                return rowsThere();
            case 1:
                return now.size;
            case 2:
                return now.step;
            case 3:
                return now.night;
            case 4:
                return now.figures();
            case 5:
                return now.withNone();
            case 6:
                return acts.size;
            case 7:
                return tape.size;
            default:
                return BAD;
        }
    }

    public int status() {
        return finding;
    }

    // ---- within

    private static boolean isRow(int row) {
        return row >= 0 && row < ROWS;
    }

    private static boolean isThing(int thing) {
        return thing >= 1 && thing <= MOST_THING;
    }

    private static boolean isFirstOrSecond(int what) {
        return what == 0 || what == 1;
    }

    private static boolean isOfKind(int narrow, int wide) {
        int kind = narrow;
        for (int up = 0; up < WIDER.length && kind >= 0 && kind < WIDER.length; up++) {
            if (kind == wide) {
                return true;
            }
            kind = WIDER[kind];
        }
        return false;
    }

    private static int power(int base, int times) {
        int product = 1;
        for (int i = 0; i < times; i++) {
            product *= base;
        }
        return product;
    }

    private static int commonDivisor(int one, int other) {
        int greater = one;
        int lesser = other;
        // Euclid's rests of numbers up to ten millions are used up long before 64 of them.
        for (int i = 0; i < 64 && lesser != 0; i++) {
            int rest = greater % lesser;
            greater = lesser;
            lesser = rest;
        }
        return greater;
    }

    private int found(int number) {
        finding = number;
        return FINDINGS - number;
    }

    /** The FINDING of n places of a ROW from i on, 0 if they are there. */
    private int findingOf(int row, int i, int n) {
        Shelf shelf = shelves[row];
        if (shelf.isMissing()) {
            return MISSING;
        }
        return shelf.has(i, n) ? 0 : NO_PLACE;
    }

    private int rowsThere() {
        int there = 0;
        for (int i = 0; i < ROWS; i++) {
            if (!shelves[i].isMissing()) {
                there++;
            }
        }
        return there;
    }

    /** How many changes by hand it takes (they stand in planned), or -1. */
    private int fewestByHand(int saint, int thing) {
        planned[0] = 0;
        planned[1] = 0;
        if (comesByHand(saint, thing)) {
            return 0;
        }
        for (int pair = 1; pair <= LAST_PAIR; pair++) {
            planned[0] = pair;
            if (isPair(pair) && comesByHand(saint, thing)) {
                return 1;
            }
        }
        for (int first = 1; first <= LAST_PAIR; first++) {
            for (int second = 1; second <= LAST_PAIR; second++) {
                planned[0] = first;
                planned[1] = second;
                if (isPair(first) && isPair(second) && comesByHand(saint, thing)) {
                    return 2;
                }
            }
        }
        return -1;
    }

    private boolean isPair(int pair) {
        return pair / 10 < pair % 10 && pair % 10 < now.size;
    }

    /** Pair 0 changes SAINT 0 with itself: nothing. */
    private boolean comesByHand(int saint, int thing) {
        trial.become(now);
        trial.exchange(planned[0] / 10, planned[0] % 10);
        trial.exchange(planned[1] / 10, planned[1] % 10);
        trial.advanceToMatins();
        return trial.things[saint] == thing;
    }

    private boolean areCluesAsTold(int saint, int row, int n, int what) {
        return now.isSaint(saint) && isRow(row) && n >= 1 && n <= MOST_CLUES && isFirstOrSecond(what);
    }

    private int kindsThatFit(int saint, int row, int i, int n) {
        int bits = 0;
        for (int kind = GIVER; kind <= HOOD; kind++) {
            trial.become(now);
            trial.kinds[saint] = kind;
            if (trialShows(saint, row, i, n)) {
                bits |= 1 << kind;
            }
        }
        return bits;
    }

    private int nightsThatFit(int saint, int row, int i, int n) {
        int bits = 0;
        for (int length = 1; length <= MOST_NIGHT; length++) {
            trial.become(now);
            trial.night = length;
            if (trialShows(saint, row, i, n)) {
                bits |= 1 << length;
            }
        }
        return bits;
    }

    /** Of all orders, were they so now: how many fit (what = 0), the place of the first that does (1). */
    private int ordersThatFit(int saint, int row, int i, int n, int what) {
        int many = orders.begin(now);
        int fitting = 0;
        for (int place = 0; place < many; place++) {
            trial.become(now);
            System.arraycopy(orders.things, 0, trial.things, 0, now.size);
            if (trialShows(saint, row, i, n)) {
                if (what == 1) {
                    return place;
                }
                fitting++;
            }
            orders.next();
        }
        return what == 0 ? fitting : NONE;
    }

    /** Whether the SAINT, as it stands in trial, has the told THING behind each of n STEPS. */
    private boolean trialShows(int saint, int row, int i, int n) {
        Shelf told = shelves[row];
        for (int d = 0; d < n; d++) {
            trial.advance(0);
            if (trial.things[saint] != told.items[i + d]) {
                return false;
            }
        }
        return true;
    }

    /** A ROW; its ITEMS are ints already cut to the LANE. */
    private static final class Shelf {
        final int[] items = new int[MOST_ITEMS];
        int lane = -1;
        int size;

        boolean isMissing() {
            return lane < 0;
        }

        void lay(int newLane, int n) {
            Arrays.fill(items, 0);
            lane = newLane;
            size = n;
        }

        /** Makes it missing; how many ITEMS it had. */
        int clear() {
            int had = size;
            lane = -1;
            size = 0;
            return had;
        }

        boolean has(int i, int n) {
            // size - n cannot wrap once n is not below 0, where i + n could.
            return n >= 0 && i >= 0 && i <= size - n;
        }

        int put(int i, int v) {
            items[i] = cut(v);
            return items[i];
        }

        private int cut(int v) {
            switch (lane) {
                case 0:
                    return (byte) v;
                case 1:
                    return (short) v;
                default:
                    return v;
            }
        }
    }

    /** SAINTS with their THINGS, STEP and NIGHT: those that are, that are tried, read, or kept as an image. */
    private static final class Ring {
        final int[] kinds = new int[MOST_SAINTS];
        final int[] things = new int[MOST_SAINTS];
        int size;
        int step;
        int night;

        void become(Ring other) {
            System.arraycopy(other.kinds, 0, kinds, 0, MOST_SAINTS);
            System.arraycopy(other.things, 0, things, 0, MOST_SAINTS);
            size = other.size;
            step = other.step;
            night = other.night;
        }

        boolean isSaint(int saint) {
            return saint >= 0 && saint < size;
        }

        int after(int saint) {
            return saint + 1 < size ? saint + 1 : 0;
        }

        int before(int saint) {
            return saint > 0 ? saint - 1 : size - 1;
        }

        boolean lets(int saint) {
            return things[saint] == 0 || kinds[saint] != HOLD && kinds[saint] != HOOD;
        }

        void exchange(int one, int other) {
            int thing = things[one];
            things[one] = things[other];
            things[other] = thing;
        }

        /** One STEP; SAINTS whose bit is in asleep do not have their TURN. */
        void advance(int asleep) {
            for (int saint = 0; saint < size; saint++) {
                if ((asleep >> saint & 1) == 0) {
                    turn(saint);
                }
            }
            step++;
            if (isMatins()) {
                singMatins();
            }
        }

        void advanceToMatins() {
            advance(0);
            for (int i = 1; i < MOST_NIGHT && !isMatins(); i++) {
                advance(0);
            }
        }

        private boolean isMatins() {
            return night > 0 && step % night == 0;
        }

        private void turn(int saint) {
            int next = after(saint);
            switch (kinds[saint]) {
                case GIVER:
                    handOn(saint, next);
                    break;
                case SHY:
                    if (things[saint] > things[next]) {
                        handOn(saint, next);
                    }
                    break;
                case PROUD:
                    if (step % 2 == 0) {
                        handOn(saint, next);
                    }
                    break;
                case HOOD:
                    if (things[saint] == 0) {
                        handOn(saint, before(saint));
                    }
                    break;
                default:
                    break;
            }
        }

        private void handOn(int saint, int other) {
            if (lets(other)) {
                exchange(saint, other);
            }
        }

        private void singMatins() {
            for (int saint = 0; saint < size; saint++) {
                int owner = things[saint] - 1;
                if (kinds[saint] == HOOD && isSaint(owner)) {
                    exchange(saint, owner);
                }
            }
        }

        int whoHas(int thing) {
            for (int saint = 0; saint < size; saint++) {
                if (things[saint] == thing) {
                    return saint;
                }
            }
            return NONE;
        }

        int withNone() {
            int none = 0;
            for (int saint = 0; saint < size; saint++) {
                if (things[saint] == 0) {
                    none++;
                }
            }
            return none;
        }

        int atHome() {
            int home = 0;
            for (int saint = 0; saint < size; saint++) {
                if (things[saint] == saint + 1) {
                    home++;
                }
            }
            return home;
        }

        boolean hasHoodWithThing() {
            for (int saint = 0; saint < size; saint++) {
                if (kinds[saint] == HOOD && things[saint] != 0) {
                    return true;
                }
            }
            return false;
        }

        int figures() {
            int figures = 0;
            for (int saint = 0; saint < size; saint++) {
                figures = 10 * figures + things[saint];
            }
            return figures;
        }

        void takeFigures(int figures) {
            int left = figures;
            for (int saint = size - 1; saint >= 0; saint--) {
                things[saint] = left % 10;
                left /= 10;
            }
        }
    }

    /** What was ahead of each ACT; no ACT changes how many SAINTS there are or their KINDS. */
    private static final class Acts {
        private final int[] figures = new int[MOST_ACTS];
        private final int[] stepNumbers = new int[MOST_ACTS];
        private final int[] nights = new int[MOST_ACTS];
        private int oldest;
        int size;

        void forget() {
            oldest = 0;
            size = 0;
        }

        void keep(Ring ring) {
            if (size == MOST_ACTS) {
                oldest = (oldest + 1) % MOST_ACTS;
                size--;
            }
            int slot = (oldest + size) % MOST_ACTS;
            figures[slot] = ring.figures();
            stepNumbers[slot] = ring.step;
            nights[slot] = ring.night;
            size++;
        }

        void takeBack(Ring ring) {
            if (size == 0) {
                return;
            }
            size--;
            int slot = (oldest + size) % MOST_ACTS;
            ring.takeFigures(figures[slot]);
            ring.step = stepNumbers[slot];
            ring.night = nights[slot];
        }
    }

    /** The bytes that have come, and how they are read. */
    private static final class Tape {
        private static final String SORTS = "gspho";
        private static final int AT_LAW = 0, AT_NIGHT = 1, AT_END = 2, AT_SORT = 3, AT_THING = 4;
        private static final int MISPLACED = 1, WRONG_NUMBER = 2, NO_ROOM = 3;

        private final int[] letters = new int[MOST_BYTES];
        final Ring draft = new Ring();
        private int stage;
        int size;
        int fault;

        boolean add(int letter) {
            if (size == MOST_BYTES) {
                return false;
            }
            letters[size] = letter;
            size++;
            return true;
        }

        /** Reads and empties the tape into draft; the place of the FAULT, or -1. */
        int read() {
            int bytes = size;
            draft.size = 0;
            stage = AT_LAW;
            int at = 0;
            for (int token = 0; token < MOST_BYTES && at < bytes; token++) {
                int length = tokenLength(at);
                int wrong = take(at, length);
                if (wrong != 0) {
                    return fail(wrong, at);
                }
                at += length;
            }
            if (stage != AT_SORT || draft.size < 2) {
                return fail(MISPLACED, bytes);
            }
            size = 0;
            return -1;
        }

        private int fail(int number, int place) {
            size = 0;
            fault = number;
            return place;
        }

        private boolean isFigure(int at) {
            return letters[at] >= '0' && letters[at] <= '9';
        }

        /** How long a run of figures is; 1 for any other byte. */
        private int tokenLength(int at) {
            int end = at;
            while (end < size && isFigure(end)) {
                end++;
            }
            return Math.max(1, end - at);
        }

        /** Takes the TOKEN at a place; its FAULT, or 0. */
        private int take(int at, int length) {
            switch (stage) {
                case AT_LAW:
                    return takeSign(at, 'r', AT_NIGHT);
                case AT_NIGHT:
                    return takeNight(at, length);
                case AT_END:
                    return takeSign(at, ';', AT_SORT);
                case AT_SORT:
                    return takeSort(at);
                default:
                    return takeThing(at, length);
            }
        }

        private int takeSign(int at, int sign, int nextStage) {
            if (letters[at] != sign) {
                return MISPLACED;
            }
            stage = nextStage;
            return 0;
        }

        private int takeNight(int at, int length) {
            if (!isNumber(at, length)) {
                return MISPLACED;
            }
            int value = numberAt(at, length);
            if (value < 1 || value > MOST_NIGHT) {
                return WRONG_NUMBER;
            }
            draft.night = value;
            stage = AT_END;
            return 0;
        }

        private int takeSort(int at) {
            int kind = SORTS.indexOf((char) letters[at]) + 1;
            if (kind == 0) {
                return MISPLACED;
            }
            if (draft.size == MOST_SAINTS) {
                return NO_ROOM;
            }
            draft.kinds[draft.size] = kind;
            stage = AT_THING;
            return 0;
        }

        private int takeThing(int at, int length) {
            if (!isNumber(at, length)) {
                return MISPLACED;
            }
            int value = numberAt(at, length);
            if (value > MOST_THING || value != 0 && draft.whoHas(value) != NONE) {
                return WRONG_NUMBER;
            }
            draft.things[draft.size] = value;
            draft.size++;
            stage = AT_END;
            return 0;
        }

        private boolean isNumber(int at, int length) {
            return isFigure(at) && length <= 2;
        }

        private int numberAt(int at, int length) {
            int value = 0;
            for (int i = 0; i < length; i++) {
                value = 10 * value + letters[at + i] - '0';
            }
            return value;
        }
    }

    /** All rows of the THINGS that a Ring has, the least first. */
    private static final class Orders {
        final int[] things = new int[MOST_SAINTS];
        private final int[] counts = new int[MOST_THING + 1];
        private int size;

        int howMany(Ring ring) {
            tally(ring);
            return ways(ring.size);
        }

        int placeOf(Ring ring) {
            tally(ring);
            int place = 0;
            for (int saint = 0; saint < ring.size; saint++) {
                int thing = ring.things[saint];
                for (int lesser = 0; lesser < thing; lesser++) {
                    if (counts[lesser] > 0) {
                        counts[lesser]--;
                        place += ways(ring.size - 1 - saint);
                        counts[lesser]++;
                    }
                }
                counts[thing]--;
            }
            return place;
        }

        /** The least row comes to things; how many rows there are. */
        int begin(Ring ring) {
            int many = howMany(ring);
            size = 0;
            for (int thing = 0; thing <= MOST_THING; thing++) {
                for (int i = 0; i < counts[thing] && size < MOST_SAINTS; i++) {
                    things[size] = thing;
                    size++;
                }
            }
            return many;
        }

        /** The next greater row comes to things; behind the greatest they stay. */
        void next() {
            int rise = size - 2;
            while (rise >= 0 && things[rise] >= things[rise + 1]) {
                rise--;
            }
            if (rise < 0) {
                return;
            }
            int greater = size - 1;
            while (greater > rise && things[greater] <= things[rise]) {
                greater--;
            }
            exchange(rise, greater);
            for (int low = rise + 1, high = size - 1; low < high; low++, high--) {
                exchange(low, high);
            }
        }

        private void exchange(int one, int other) {
            int thing = things[one];
            things[one] = things[other];
            things[other] = thing;
        }

        private void tally(Ring ring) {
            Arrays.fill(counts, 0);
            for (int saint = 0; saint < ring.size; saint++) {
                counts[ring.things[saint]]++;
            }
        }

        /** Rows of as many THINGS as are left in counts; none but 0 is there twice. */
        private int ways(int left) {
            int many = 1;
            for (int i = counts[0] + 1; i <= left; i++) {
                many *= i;
            }
            return many;
        }
    }

    /** THINGS told by a ROW, and the changes by which the SAINTS have them. */
    private static final class Goal {
        private final int[] things = new int[MOST_SAINTS];
        private final int[] aims = new int[MOST_SAINTS];

        /** Takes the THINGS told; whether they are those of the Ring. */
        boolean take(Ring ring, Shelf shelf, int from) {
            int used = 0;
            for (int saint = 0; saint < ring.size; saint++) {
                things[saint] = shelf.items[from + saint];
            }
            for (int saint = 0; saint < ring.size; saint++) {
                int place = freePlaceOf(ring.things[saint], used, ring.size);
                if (place < 0) {
                    return false;
                }
                used |= 1 << place;
                aims[saint] = place;
            }
            return true;
        }

        /** The first place of a THING that is told and not used, so that those with none keep their order; -1. */
        private int freePlaceOf(int thing, int used, int size) {
            for (int place = 0; place < size; place++) {
                if (things[place] == thing && (used >> place & 1) == 0) {
                    return place;
                }
            }
            return -1;
        }

        /** Each cycle of THINGS saves a change; each none can close a cycle of its own. */
        int fewestChanges(Ring ring) {
            return ring.size - ring.withNone() - cyclesWithoutNone(ring);
        }

        int evenOrOdd(Ring ring) {
            if (ring.withNone() >= 2) {
                return 3;
            }
            return fewestChanges(ring) % 2 == 0 ? 1 : 2;
        }

        private int cyclesWithoutNone(Ring ring) {
            int cycles = 0;
            int seen = 0;
            for (int saint = 0; saint < ring.size; saint++) {
                int at = saint;
                boolean fresh = (seen >> saint & 1) == 0;
                for (int hop = 0; hop < ring.size && (seen >> at & 1) == 0 && ring.things[at] != 0; hop++) {
                    seen |= 1 << at;
                    at = aims[at];
                }
                if (fresh && at == saint && ring.things[at] != 0) {
                    cycles++;
                }
            }
            return cycles;
        }

        int neighbourChanges(Ring ring) {
            int pairs = 0;
            for (int one = 0; one < ring.size; one++) {
                for (int other = one + 1; other < ring.size; other++) {
                    if (aims[one] > aims[other]) {
                        pairs++;
                    }
                }
            }
            return pairs;
        }

        int neighbourChange(Ring ring, int k) {
            int a = NONE;
            for (int i = 0; i <= k && i <= MOST_NEIGHBOUR_CHANGES; i++) {
                a = firstFall(ring.size);
                if (a < 0) {
                    return NONE;
                }
                int aim = aims[a];
                aims[a] = aims[a + 1];
                aims[a + 1] = aim;
            }
            return a;
        }

        private int firstFall(int size) {
            for (int a = 0; a + 1 < size; a++) {
                if (aims[a] > aims[a + 1]) {
                    return a;
                }
            }
            return NONE;
        }
    }

    /** ASKS, by BODIES that leave their numbers in THE TRACE. */
    private static final class Asking {
        final int[] trail = new int[MOST_TRACED];
        int traced;

        int answer(Ring ring, int saint, int what) {
            traced = 0;
            int kind = ring.kinds[saint];
            return run(what == 0 ? SIZE_BODY[kind] : MARK_BODY[kind], ring, saint, 0);
        }

        private int run(int body, Ring ring, int saint, int depth) {
            if (depth >= DEEPEST_BODY) {
                return 0;
            }
            leave(body);
            int size = SIZE_BODY[ring.kinds[saint]];
            int mark = MARK_BODY[ring.kinds[saint]];
            switch (body) {
                case 10:
                    return ring.things[saint];
                case 11:
                    return run(10, ring, saint, depth + 1) + run(mark, ring, saint, depth + 1);
                case 12:
                    return -run(11, ring, saint, depth + 1);
                case 13:
                    return run(10, ring, saint, depth + 1) - 100;
                case 14:
                    return 2 * run(13, ring, saint, depth + 1);
                case 20:
                    return saint;
                case 21:
                    return run(20, ring, saint, depth + 1) + ring.withNone();
                case 22:
                    return run(21, ring, saint, depth + 1) - 1000;
                case 23:
                    return run(20, ring, saint, depth + 1) - run(size, ring, saint, depth + 1);
                case 24:
                    return 2 * run(21, ring, saint, depth + 1);
                default:
                    return 0;
            }
        }

        private void leave(int body) {
            if (traced < MOST_TRACED) {
                trail[traced] = body;
                traced++;
            }
        }
    }
}
