/**
 * Wool that tells: a valley where one may lie only in what one has knitted oneself.
 *
 * What each call promises stands in ../shared/DOC.md; the words in capitals here are the ones told there.
 */
public final class WoolTells {
    public static final int NONE = -1000000, BAD = -1000001, STATE = -1000002, FULL = -1000003;

    private static final int FINDINGS = -1000010;
    private static final int NULL = 1, PLACE = 2, KIND = 3, SIZE = 4, STORE = 5;

    private static final int FAULTS = -1000100;
    private static final int MISPLACED = 1, NOT_AS_TOLD = 2, NO_ROOM = 3;

    private static final int ROWS = 8, MOST_ITEMS = 40;
    private static final int BYTE_LANE = 0, SHORT_LANE = 1, INT_LANE = 2;

    private static final int MOST_BYTES = 400, BYTES_OF_A_LONG = 8;
    private static final int MOST_KNITTERS = 5, MOST_FACTS = 6, MOST_WOOLS = 7, MOST_SAYINGS = 12;
    private static final int MOST_LINES_TOLD = 30, MOST_LINES = 99, WORD_FOR_NONE = 9;

    private static final int MOST_KNITTED = 30, MOST_UNPICKED = 99, MOST_SEED = 999999;
    private static final long DRAW_FACTOR = 16807L, DRAW_DIVISOR = 2147483647L, MOTH_DIVISOR = 3L;
    private static final int MOST_ACTS = 24, IMAGES = 2;

    private static final int UNTOLD = -1, BOTH = -2;
    private static final int NO_WOOL = -1, WOOL_SETS = 1 << MOST_WOOLS;
    private static final int MOST_GIVEN = 999;

    private static final int JERSEY = 1, SCARF = 2, CAP = 3, STOCKING = 4, NET = 5, KINDS = 6;
    /** Of each KIND the nearest one that it is, too; a WOOL (0) is nothing more. */
    private static final int[] NEAREST = {0, 0, 1, 1, 0, 4};
    /** Of each KIND the BODY told for it; 0: none is told. Those of a WOOL (0) are lent to all. */
    private static final int[] SIZE_BODIES = {10, 11, 12, 0, 13, 14};
    private static final int[] MARK_BODIES = {20, 21, 24, 22, 23, 0};
    private static final int MOST_TRACED = 16, MOST_OPEN_BODIES = 16;

    private final Row[] rows = new Row[ROWS];
    private int finding;

    private final Reader reader = new Reader();
    private int latestFault;

    private final Valley current = new Valley();
    private final Valley draft = new Valley();
    private final Valley[] images = new Valley[IMAGES];
    private final Acts acts = new Acts();
    private final Closet closet = new Closet();

    private final int[] traced = new int[MOST_TRACED];
    private int tracedCount;

    public WoolTells() {
        for (int r = 0; r < rows.length; r++) {
            rows[r] = new Row();
        }
        for (int k = 0; k < images.length; k++) {
            images[k] = new Valley();
        }
    }

    // ---- rows

    public int row(int row, int lane, int n) {
        if (!isRow(row) || lane < BYTE_LANE || lane > INT_LANE || n > MOST_ITEMS) {
            return BAD;
        }
        if (n < 0) {
            return found(SIZE);
        }
        rows[row].renew(lane, n);
        return unfound(n);
    }

    public int set(int row, int i, int v) {
        if (!isRow(row)) {
            return BAD;
        }
        Row changed = rows[row];
        if (!changed.there) {
            return found(NULL);
        }
        if (!changed.holds(i, 1)) {
            return found(PLACE);
        }
        changed.items[i] = changed.narrowed(v);
        return unfound(changed.items[i]);
    }

    public int copy(int a, int i, int b, int j, int n) {
        if (!isRow(a) || !isRow(b)) {
            return BAD;
        }
        Row from = rows[a];
        Row to = rows[b];
        if (!from.there || !to.there) {
            return found(NULL);
        }
        if (from.lane != to.lane) {
            return found(STORE);
        }
        if (!from.holds(i, n) || !to.holds(j, n)) {
            return found(PLACE);
        }
        System.arraycopy(from.items, i, to.items, j, n);
        return unfound(n);
    }

    public int drop(int row) {
        if (!isRow(row)) {
            return BAD;
        }
        if (!rows[row].there) {
            return found(NULL);
        }
        rows[row].there = false;
        return unfound(rows[row].size);
    }

    private static boolean isRow(int row) {
        return row >= 0 && row < ROWS;
    }

    private int found(int newFinding) {
        finding = newFinding;
        return FINDINGS - newFinding;
    }

    /** The answer of a call with a ROW, or of as(), that had no FINDING. */
    private int unfound(int answer) {
        finding = 0;
        return answer;
    }

    // ---- valleys, acts

    public int feed(long w, int n) {
        if (n < 1 || n > BYTES_OF_A_LONG) {
            return BAD;
        }
        if (n > MOST_BYTES - reader.tape.length) {
            return FULL;
        }
        reader.tape.append(w, n);
        return reader.tape.length;
    }

    public int valley() {
        reader.read(draft);
        reader.tape.length = 0;
        if (reader.faultNumber != 0) {
            latestFault = reader.faultNumber;
            return FAULTS - reader.faultPlace;
        }
        current.become(draft);
        acts.forget();
        return current.wools;
    }

    public int fault() {
        return latestFault;
    }

    public int knit(int wool, int n) {
        if (!isWool(wool) || n < 1 || n > MOST_KNITTED) {
            return BAD;
        }
        if (current.isGone(wool)) {
            return STATE;
        }
        if (n > MOST_LINES - current.lines[wool]) {
            return FULL;
        }
        acts.keep(current);
        current.lines[wool] += n;
        return current.lines[wool];
    }

    public int unpick(int wool, int n) {
        if (!isWool(wool) || n < 1 || n > MOST_UNPICKED) {
            return BAD;
        }
        if (current.isGone(wool)) {
            return STATE;
        }
        acts.keep(current);
        return current.shorten(wool, n);
    }

    public int moths(int seed) {
        if (!current.isThere()) {
            return STATE;
        }
        if (seed < 1 || seed > MOST_SEED) {
            return BAD;
        }
        acts.keep(current);
        long x = seed;
        int eaten = 0;
        for (int w = 0; w < current.wools; w++) {
            // One that is gone draws nothing: the draws of the WOOLS behind it hang on that.
            if (!current.isGone(w)) {
                x = x * DRAW_FACTOR % DRAW_DIVISOR;
                eaten += current.shorten(w, (int) (x % MOTH_DIVISOR));
            }
        }
        return eaten;
    }

    public int join(int a, int b) {
        if (!isWool(a) || !isWool(b) || a == b) {
            return BAD;
        }
        if (current.isGone(a) || current.isGone(b)) {
            return STATE;
        }
        if (current.lines[a] + current.lines[b] > MOST_LINES) {
            return FULL;
        }
        acts.keep(current);
        current.lines[a] += current.lines[b];
        current.makers[a] |= current.makers[b];
        current.lines[b] = 0;
        return current.lines[a];
    }

    public int undo() {
        if (acts.kept == 0) {
            return STATE;
        }
        acts.takeBack(current);
        return acts.kept;
    }

    public int wool(int wool, int what) {
        if (!isWool(wool)) {
            return BAD;
        }
        switch (what) {
            case 0:
                return current.lines[wool];
            case 1:
                return current.makers[wool];
            case 2:
                return current.warmth(wool);
            case 3:
                return current.liars(wool);
            default:
                return BAD;
        }
    }

    public int saying(int saying, int what) {
        if (saying < 0 || saying >= current.sayings) {
            return BAD;
        }
        switch (what) {
            case 0:
                return current.who[saying];
            case 1:
                return current.worn[saying] == NO_WOOL ? NONE : current.worn[saying];
            case 2:
                return current.about[saying];
            case 3:
                return current.is[saying];
            case 4:
                return current.isBound(saying, 0) ? 1 : 0;
            default:
                return BAD;
        }
    }

    private boolean isWool(int wool) {
        return wool >= 0 && wool < current.wools;
    }

    // ---- foretold

    public int known(int fact) {
        return isFact(fact) ? current.knowledge(fact) : BAD;
    }

    public int worlds(int what) {
        if (!current.isThere()) {
            return STATE;
        }
        if (what < 0 || what > 1) {
            return BAD;
        }
        return what == 0 ? current.possibleWorlds() : current.lies();
    }

    public int out(int fact, int what) {
        if (!isFact(fact) || what < 0 || what > 1) {
            return BAD;
        }
        int unpicked = current.fewestToUnpick(fact);
        return unpicked == NONE || what == 1 ? unpicked : current.linesOf(unpicked);
    }

    public int firstFalse() {
        return current.isThere() ? current.firstContradiction() : STATE;
    }

    public int wear(int told, int k) {
        if (!current.isThere()) {
            return STATE;
        }
        if (told < 0 || told >= 1 << current.knitters || k < -1 || k >= current.knitters) {
            return BAD;
        }
        closet.dress(current, told);
        return k == -1 ? closet.mostWarmth : closet.dressed[k];
    }

    public int bids(int row, int i, int what) {
        if (!current.isThere()) {
            return STATE;
        }
        if (!isRow(row) || what < 0 || what > 1) {
            return BAD;
        }
        Row given = rows[row];
        if (!given.there) {
            return found(NULL);
        }
        if (!given.holds(i, current.knitters)) {
            return found(PLACE);
        }
        if (!given.liesWithin(i, current.knitters, MOST_GIVEN)) {
            return BAD;
        }
        return unfound(latestBid(given, i, what));
    }

    /** Who made the latest bid (what = 0), or how much it is; given.holds(from, current.knitters). */
    private int latestBid(Row given, int from, int what) {
        int bidder = NONE;
        int bid = 0;
        boolean goesOn = true;
        // Every round that goes on has raised the bid, and none is above what is given at most.
        for (int round = 0; goesOn && round <= MOST_GIVEN; round++) {
            goesOn = false;
            for (int k = 0; k < current.knitters; k++) {
                if (k != bidder && given.items[from + k] > bid) {
                    bid++;
                    bidder = k;
                    goesOn = true;
                }
            }
        }
        return what == 0 || bidder == NONE ? bidder : bid;
    }

    public int image(int k) {
        if (!isImage(k)) {
            return BAD;
        }
        if (!current.isThere()) {
            return STATE;
        }
        images[k].become(current);
        return 1;
    }

    public int restore(int k) {
        if (!isImage(k)) {
            return BAD;
        }
        if (!images[k].isThere()) {
            return STATE;
        }
        current.become(images[k]);
        acts.forget();
        return 1;
    }

    private boolean isFact(int fact) {
        return fact >= 0 && fact < current.facts;
    }

    private static boolean isImage(int k) {
        return k >= 0 && k < IMAGES;
    }

    // ---- asked

    public int kind(int wool) {
        return isWool(wool) ? current.kinds[wool] : BAD;
    }

    public int as(int wool, int kind) {
        if (!isWool(wool) || kind < 0 || kind >= KINDS) {
            return BAD;
        }
        return isOfKind(current.kinds[wool], kind) ? unfound(wool) : found(KIND);
    }

    public int ask(int wool, int what) {
        if (!isWool(wool) || what < 0 || what > 1) {
            return BAD;
        }
        tracedCount = 0;
        return begin(what == 0 ? sizeBody(wool) : markBody(wool), wool, 0);
    }

    public int trace(int i) {
        return i >= 0 && i < tracedCount ? traced[i] : NONE;
    }

    public int count(int what) {
        switch (what) {
            case 0:
                return countRows();
            case 1:
                return current.knitters;
            case 2:
                return current.wools;
            case 3:
                return current.sayings;
            case 4:
                return acts.kept;
            case 5:
                return current.linesOf(WOOL_SETS - 1);
            case 6:
                return current.countBound();
            case 7:
                return reader.tape.length;
            default:
                return BAD;
        }
    }

    public int status() {
        return finding;
    }

    private int countRows() {
        int there = 0;
        for (int r = 0; r < rows.length; r++) {
            if (rows[r].there) {
                there++;
            }
        }
        return there;
    }

    private static boolean isOfKind(int kind, int wanted) {
        int nearest = kind;
        for (int step = 0; step < KINDS && nearest != wanted; step++) {
            nearest = NEAREST[nearest];
        }
        return nearest == wanted;
    }

    private int sizeBody(int wool) {
        return nearestBody(SIZE_BODIES, current.kinds[wool]);
    }

    private int markBody(int wool) {
        return nearestBody(MARK_BODIES, current.kinds[wool]);
    }

    private static int nearestBody(int[] bodies, int kind) {
        int nearest = kind;
        for (int step = 0; step < KINDS && bodies[nearest] == 0; step++) {
            nearest = NEAREST[nearest];
        }
        return bodies[nearest];
    }

    /** A BODY begins, for a WOOL, within so many that are open; no BODY that is told comes near their bound. */
    private int begin(int body, int wool, int open) {
        if (open >= MOST_OPEN_BODIES) {
            return 0;
        }
        leaveInTrace(body);
        return answer(body, wool, open + 1);
    }

    /** What a BODY that has begun gives; THE TRACE shows in which order it asks others. */
    private int answer(int body, int wool, int open) {
        switch (body) {
            case 10:
                return current.lines[wool];
            case 11:
                return begin(10, wool, open) + begin(markBody(wool), wool, open);
            case 12:
                return -begin(11, wool, open);
            case 13:
                return begin(10, wool, open) - 100;
            case 14:
                return 2 * begin(13, wool, open);
            case 20:
                return wool;
            case 21:
                return begin(20, wool, open) + current.makers[wool];
            case 22:
                return begin(21, wool, open) - 1000;
            case 23:
                return begin(20, wool, open) - begin(sizeBody(wool), wool, open);
            case 24:
                return 2 * begin(21, wool, open);
            default:
                return 0;
        }
    }

    private void leaveInTrace(int body) {
        if (tracedCount < MOST_TRACED) {
            traced[tracedCount] = body;
            tracedCount++;
        }
    }

    /** A ROW; its ITEMS are held as ints of whatever LANE, so that it is made once for all. */
    private static final class Row {
        private final int[] items = new int[MOST_ITEMS];
        private boolean there;
        private int lane;
        private int size;

        private void renew(int newLane, int newSize) {
            there = true;
            lane = newLane;
            size = newSize;
            for (int i = 0; i < items.length; i++) {
                items[i] = 0;
            }
        }

        /** Whether there are n ITEMS from i on; asked without a sum, which could be too great for an int. */
        private boolean holds(int i, int n) {
            return i >= 0 && n >= 0 && i <= size && n <= size - i;
        }

        private int narrowed(int v) {
            if (lane == BYTE_LANE) {
                return (byte) v;
            }
            return lane == SHORT_LANE ? (short) v : v;
        }

        /** Whether n ITEMS from i on are 0 to most; holds(i, n). */
        private boolean liesWithin(int i, int n, int most) {
            for (int at = i; at < i + n; at++) {
                if (items[at] < 0 || items[at] > most) {
                    return false;
                }
            }
            return true;
        }
    }

    /** THE TAPE, and the TOKEN of it that is looked at. */
    private static final class Tape {
        private static final int END = 0, NAME = 1, NUMBER = 2, SIGN = 3, NO_TOKEN = 4;
        private static final int MOST_FIGURES = 3;

        private final byte[] bytes = new byte[MOST_BYTES];
        private int length;
        private int token;
        private int tokenBegin;
        private int tokenEnd;

        /** There is room for n bytes. */
        private void append(long w, int n) {
            for (int i = n - 1; i >= 0; i--) {
                bytes[length] = (byte) (w >> 8 * i);
                length++;
            }
        }

        private void rewind() {
            tokenEnd = 0;
            step();
        }

        private void step() {
            tokenBegin = tokenEnd;
            while (tokenBegin < length && isBlank(bytes[tokenBegin])) {
                tokenBegin++;
            }
            tokenEnd = tokenBegin;
            if (tokenBegin >= length) {
                token = END;
            } else if (isLetter(bytes[tokenBegin])) {
                while (tokenEnd < length && isLetter(bytes[tokenEnd])) {
                    tokenEnd++;
                }
                token = NAME;
            } else if (isFigure(bytes[tokenBegin])) {
                while (tokenEnd < length && isFigure(bytes[tokenEnd])) {
                    tokenEnd++;
                }
                token = tokenEnd - tokenBegin <= MOST_FIGURES ? NUMBER : NO_TOKEN;
            } else {
                token = bytes[tokenBegin] == ';' ? SIGN : NO_TOKEN;
                tokenEnd++;
            }
        }

        private boolean isWord(String word) {
            if (token != NAME || tokenEnd - tokenBegin != word.length()) {
                return false;
            }
            for (int i = 0; i < word.length(); i++) {
                if (bytes[tokenBegin + i] != word.charAt(i)) {
                    return false;
                }
            }
            return true;
        }

        /** The value of a NUMBER. */
        private int value() {
            int sum = 0;
            for (int i = tokenBegin; i < tokenEnd; i++) {
                sum = sum * 10 + bytes[i] - '0';
            }
            return sum;
        }

        private static boolean isBlank(int b) {
            return b == 32 || b == 10;
        }

        private static boolean isLetter(int b) {
            return b >= 'a' && b <= 'z';
        }

        private static boolean isFigure(int b) {
            return b >= '0' && b <= '9';
        }
    }

    /** Reads the text on its tape into a VALLEY; behind the first FAULT nothing more is read. */
    private static final class Reader {
        private final Tape tape = new Tape();
        private int faultNumber;
        private int faultPlace;

        private void read(Valley into) {
            faultNumber = 0;
            faultPlace = 0;
            into.wools = 0;
            into.sayings = 0;
            tape.rewind();
            readKnitters(into);
            // One round more than there is room for: it is the one that finds the FAULT.
            for (int w = 0; w <= MOST_WOOLS && isNext("wool"); w++) {
                readWool(into);
            }
            for (int s = 0; s <= MOST_SAYINGS && isNext("saying"); s++) {
                readSaying(into);
            }
            if (tape.token != Tape.END) {
                fail(MISPLACED);
            }
        }

        private void readKnitters(Valley into) {
            readWord("knitters");
            into.knitters = readNumber(1, MOST_KNITTERS);
            into.facts = readNumber(1, MOST_FACTS);
            readSign();
        }

        private void readWool(Valley into) {
            int w = into.wools;
            if (w >= MOST_WOOLS) {
                fail(NO_ROOM);
                return;
            }
            readWord("wool");
            into.kinds[w] = readSort();
            into.makers[w] = 1 << readNumber(0, into.knitters - 1);
            into.lines[w] = readNumber(1, MOST_LINES_TOLD);
            readSign();
            into.wools++;
        }

        private void readSaying(Valley into) {
            int s = into.sayings;
            if (s >= MOST_SAYINGS) {
                fail(NO_ROOM);
                return;
            }
            readWord("saying");
            into.who[s] = readNumber(0, into.knitters - 1);
            into.worn[s] = readWorn(into.wools);
            into.about[s] = readNumber(0, into.facts - 1);
            into.is[s] = readNumber(0, 1);
            readSign();
            into.sayings++;
        }

        private boolean isNext(String word) {
            return faultNumber == 0 && tape.isWord(word);
        }

        private void readWord(String word) {
            stepIf(tape.isWord(word));
        }

        private void readSign() {
            stepIf(tape.token == Tape.SIGN);
        }

        private int readSort() {
            int kind = sortTold();
            stepIf(kind != 0);
            return kind;
        }

        private int sortTold() {
            if (tape.isWord("jersey")) {
                return JERSEY;
            }
            if (tape.isWord("scarf")) {
                return SCARF;
            }
            if (tape.isWord("cap")) {
                return CAP;
            }
            if (tape.isWord("stocking")) {
                return STOCKING;
            }
            return tape.isWord("net") ? NET : 0;
        }

        private int readNumber(int least, int most) {
            if (faultNumber == 0 && tape.token == Tape.NUMBER) {
                int value = tape.value();
                if (value < least || value > most) {
                    fail(NOT_AS_TOLD);
                    return 0;
                }
                tape.step();
                return value;
            }
            fail(MISPLACED);
            return 0;
        }

        private int readWorn(int wools) {
            if (faultNumber == 0 && tape.token == Tape.NUMBER && tape.value() == WORD_FOR_NONE) {
                tape.step();
                return NO_WOOL;
            }
            return readNumber(0, wools - 1);
        }

        private void stepIf(boolean standsThere) {
            if (faultNumber != 0) {
                return;
            }
            if (standsThere) {
                tape.step();
            } else {
                fail(MISPLACED);
            }
        }

        private void fail(int number) {
            if (faultNumber == 0) {
                faultNumber = number;
                faultPlace = tape.tokenBegin;
            }
        }
    }

    /**
     * A VALLEY: its KNITTERS, WOOLS and SAYINGS, and what is foretold of them.
     * Where a set of WOOLS is taken as unpicked, nothing changes: it is only asked what would be.
     */
    private static final class Valley {
        private int knitters;
        private int facts;
        private int wools;
        private final int[] kinds = new int[MOST_WOOLS];
        private final int[] lines = new int[MOST_WOOLS];
        private final int[] makers = new int[MOST_WOOLS];
        private int sayings;
        private final int[] who = new int[MOST_SAYINGS];
        private final int[] worn = new int[MOST_SAYINGS];
        private final int[] about = new int[MOST_SAYINGS];
        private final int[] is = new int[MOST_SAYINGS];

        /** One that was read has a KNITTER at least. */
        private boolean isThere() {
            return knitters > 0;
        }

        private void become(Valley other) {
            knitters = other.knitters;
            facts = other.facts;
            wools = other.wools;
            System.arraycopy(other.kinds, 0, kinds, 0, MOST_WOOLS);
            System.arraycopy(other.lines, 0, lines, 0, MOST_WOOLS);
            System.arraycopy(other.makers, 0, makers, 0, MOST_WOOLS);
            sayings = other.sayings;
            System.arraycopy(other.who, 0, who, 0, MOST_SAYINGS);
            System.arraycopy(other.worn, 0, worn, 0, MOST_SAYINGS);
            System.arraycopy(other.about, 0, about, 0, MOST_SAYINGS);
            System.arraycopy(other.is, 0, is, 0, MOST_SAYINGS);
        }

        private boolean isGone(int wool) {
            return lines[wool] == 0;
        }

        /** By n lines, as far as there are: by how many. */
        private int shorten(int wool, int n) {
            int fewer = Math.min(n, lines[wool]);
            lines[wool] -= fewer;
            return fewer;
        }

        private int linesOf(int woolSet) {
            int sum = 0;
            for (int w = 0; w < wools; w++) {
                if (isIn(woolSet, w)) {
                    sum += lines[w];
                }
            }
            return sum;
        }

        private int warmth(int wool) {
            if (isGone(wool)) {
                return 0;
            }
            switch (kinds[wool]) {
                case SCARF:
                    return lines[wool] / 2;
                case CAP:
                    return lines[wool] + 2;
                case NET:
                    return 0;
                default:
                    return lines[wool];
            }
        }

        private boolean mayLie(int knitter, int wool, int unpicked) {
            if (wool == NO_WOOL || isGone(wool) || isIn(unpicked, wool)) {
                return false;
            }
            if (kinds[wool] == NET) {
                return true;
            }
            boolean odd = lines[wool] % 2 == 1;
            return isIn(makers[wool], knitter) && !(kinds[wool] == STOCKING && odd);
        }

        private int liars(int wool) {
            int set = 0;
            for (int k = 0; k < knitters; k++) {
                if (mayLie(k, wool, 0)) {
                    set |= 1 << k;
                }
            }
            return set;
        }

        private boolean isBound(int saying, int unpicked) {
            return !mayLie(who[saying], worn[saying], unpicked);
        }

        private int countBound() {
            int bound = 0;
            for (int s = 0; s < sayings; s++) {
                if (isBound(s, 0)) {
                    bound++;
                }
            }
            return bound;
        }

        /** The FACTS of which BOUND SAYINGS say this (bits). */
        private int factsSaid(int isSo, int unpicked) {
            int set = 0;
            for (int s = 0; s < sayings; s++) {
                if (is[s] == isSo && isBound(s, unpicked)) {
                    set |= 1 << about[s];
                }
            }
            return set;
        }

        private int knowledge(int fact) {
            boolean saidSo = isIn(factsSaid(1, 0), fact);
            boolean saidNot = isIn(factsSaid(0, 0), fact);
            if (saidSo) {
                return saidNot ? BOTH : 1;
            }
            return saidNot ? 0 : UNTOLD;
        }

        private int possibleWorlds() {
            int so = factsSaid(1, 0);
            int not = factsSaid(0, 0);
            return (so & not) != 0 ? 0 : 1 << facts - Integer.bitCount(so | not);
        }

        /** A FACT that is not KNOWN is so in some of WORLDS, and not in others: no SAYING of it is a lie. */
        private int lies() {
            if (possibleWorlds() == 0) {
                return 0;
            }
            int so = factsSaid(1, 0);
            int not = factsSaid(0, 0);
            int set = 0;
            for (int s = 0; s < sayings; s++) {
                if (!isBound(s, 0) && isIn(is[s] == 1 ? not : so, about[s])) {
                    set |= 1 << s;
                }
            }
            return set;
        }

        /** The set of WOOLS; NONE. */
        private int fewestToUnpick(int fact) {
            int best = NONE;
            int fewest = 0;
            for (int set = 0; set < 1 << wools; set++) {
                int fewer = linesOf(set);
                if ((best == NONE || fewer < fewest) && comesOut(fact, set)) {
                    best = set;
                    fewest = fewer;
                }
            }
            return best;
        }

        /** There is one of WORLDS at least where no FACT is said to be so and not so. */
        private boolean comesOut(int fact, int unpicked) {
            int so = factsSaid(1, unpicked);
            int not = factsSaid(0, unpicked);
            return (so & not) == 0 && isIn(so | not, fact);
        }

        private int firstContradiction() {
            for (int s = 0; s < sayings; s++) {
                for (int ahead = 0; ahead < s; ahead++) {
                    boolean saysElse = about[ahead] == about[s] && is[ahead] != is[s];
                    if (saysElse && isBound(ahead, 0) && isBound(s, 0)) {
                        return s;
                    }
                }
            }
            return NONE;
        }

        private static boolean isIn(int set, int number) {
            return (set >> number & 1) == 1;
        }
    }

    /** The WOOLS as they were ahead of each ACT that can be undone; ACTS change nothing else. */
    private static final class Acts {
        private final int[] lines = new int[MOST_ACTS * MOST_WOOLS];
        private final int[] makers = new int[MOST_ACTS * MOST_WOOLS];
        private int next;
        private int kept;

        private void keep(Valley valley) {
            System.arraycopy(valley.lines, 0, lines, next * MOST_WOOLS, MOST_WOOLS);
            System.arraycopy(valley.makers, 0, makers, next * MOST_WOOLS, MOST_WOOLS);
            // The next place is the oldest one's, once all are taken: so that one is forgotten.
            next = (next + 1) % MOST_ACTS;
            kept = Math.min(kept + 1, MOST_ACTS);
        }

        /** There is one that can be undone. */
        private void takeBack(Valley valley) {
            next = (next + MOST_ACTS - 1) % MOST_ACTS;
            kept--;
            System.arraycopy(lines, next * MOST_WOOLS, valley.lines, 0, MOST_WOOLS);
            System.arraycopy(makers, next * MOST_WOOLS, valley.makers, 0, MOST_WOOLS);
        }

        private void forget() {
            kept = 0;
        }
    }

    /** Who is to wear what so that all are warmest. */
    private static final class Closet {
        private final int[] warmth = new int[MOST_WOOLS];
        /** Of each KNITTER the WOOLS that may be worn (bits). */
        private final int[] choice = new int[MOST_KNITTERS];
        /** The most that KNITTERS from k on can have once a set is taken, at k times WOOL_SETS and the set. */
        private final int[] most = new int[(MOST_KNITTERS + 1) * WOOL_SETS];
        private final int[] dressed = new int[MOST_KNITTERS];
        private int knitters;
        private int wools;
        private int mostWarmth;

        private void dress(Valley valley, int told) {
            open(valley, told);
            for (int set = 0; set < 1 << wools; set++) {
                most[knitters * WOOL_SETS + set] = 0;
            }
            for (int k = knitters - 1; k >= 0; k--) {
                for (int set = 0; set < 1 << wools; set++) {
                    // KNITTERS ahead of k can not have taken more WOOLS than they are.
                    if (Integer.bitCount(set) <= k) {
                        most[k * WOOL_SETS + set] = mostFrom(k, set);
                    }
                }
            }
            mostWarmth = most[0];
            int taken = 0;
            for (int k = 0; k < knitters; k++) {
                dressed[k] = firstBest(k, taken);
                if (dressed[k] != NO_WOOL) {
                    taken |= 1 << dressed[k];
                }
            }
        }

        private void open(Valley valley, int told) {
            knitters = valley.knitters;
            wools = valley.wools;
            for (int w = 0; w < wools; w++) {
                warmth[w] = valley.warmth(w);
            }
            for (int k = 0; k < knitters; k++) {
                choice[k] = choiceOf(valley, k, Valley.isIn(told, k));
            }
        }

        private static int choiceOf(Valley valley, int k, boolean isTold) {
            int set = 0;
            for (int w = 0; w < valley.wools; w++) {
                if (!valley.isGone(w) && !(isTold && valley.mayLie(k, w, 0))) {
                    set |= 1 << w;
                }
            }
            return set;
        }

        private int mostFrom(int k, int taken) {
            int best = mostWith(k, taken, NO_WOOL);
            for (int w = 0; w < wools; w++) {
                if (Valley.isIn(choice[k] & ~taken, w)) {
                    best = Math.max(best, mostWith(k, taken, w));
                }
            }
            return best;
        }

        private int firstBest(int k, int taken) {
            int best = most[k * WOOL_SETS + taken];
            if (mostWith(k, taken, NO_WOOL) == best) {
                return NO_WOOL;
            }
            for (int w = 0; w < wools; w++) {
                if (Valley.isIn(choice[k] & ~taken, w) && mostWith(k, taken, w) == best) {
                    return w;
                }
            }
            return NO_WOOL;
        }

        /** The most that KNITTERS from k on can have where k wears that WOOL, or none. */
        private int mostWith(int k, int taken, int wool) {
            int behind = (k + 1) * WOOL_SETS + taken;
            return wool == NO_WOOL ? most[behind] : warmth[wool] + most[behind | 1 << wool];
        }
    }
}
