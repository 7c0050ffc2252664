import java.util.Arrays;

/** Camps in a desert and a yard of lorries, as ../shared/DOC.md tells. */
public final class FourLorries {
    public static final int UNKNOWN = -1, OUTSIDE = -2, STATE = -3, FULL = -4, NONE = -9;
    public static final long LOST = Long.MIN_VALUE;

    private static final int NULL_FAULT = 1, CAST_FAULT = 2, INDEX_FAULT = 3, SIZE_FAULT = 4;
    private static final int CAMPS = 3, PARTS = 12, SHEETS = 4, CELLS = 60, LANES = 3;
    private static final int YARD_LORRIES = 4, YARD_SORTS = 3, KINDS = 3, PLACES = 12;
    private static final int MOST_LORRIES = 4, MOST_SORTS = 3, MOST_GOOD = 5, MOST_WEIGHT = 30;
    private static final int DAYS = 12, DRAWS = 12;

    // The numbers of a SORT of a CAMP, as ofSort and turn name them.
    private static final int GOOD = 0, HARD = 1, EASY = 2, WEIGHT = 3, PLANE = 4, NUMBERS = 5;
    private static final int[] LEAST = {0, 0, 0, 1, 0};
    private static final int[] GREATEST = {5, 12, 12, 9, 2};

    private static final int BEST = 0, GENTLE = 2, ONE = 3, NEVER = 4, RULES = 5;
    private static final int LOW = 0, HIGH = 1;

    private final Camp[] camps = new Camp[CAMPS];
    private int campCount = 0;
    private final TextReader reader = new TextReader();
    private final Outlook outlook = new Outlook();
    private final Yard yard = new Yard();
    private final Row[] rows = new Row[SHEETS];
    private final Trace traced = new Trace();
    private int latestFault = 0;

    public FourLorries() {
        for (int k = 0; k < SHEETS; k++) {
            rows[k] = new Row();
        }
    }

    // ---- 1 camps

    public int camp(int sheet, int lane, int i, int n) {
        int answer = takeCells(sheet, lane, i, n);
        if (answer != 0) {
            return answer;
        }
        int firstFault = reader.firstFault(rows[sheet], i, n);
        if (firstFault != NONE) {
            return -100 - firstFault;
        }
        if (campCount >= CAMPS) {
            return FULL;
        }
        camps[campCount] = new Camp(reader);
        campCount++;
        return campCount - 1;
    }

    public int ofCamp(int x, int what) {
        if (!isCamp(x)) {
            return UNKNOWN;
        }
        Camp camp = camps[x];
        if (what >= 10 && what - 10 <= camp.lorries) {
            return camp.brings[what - 10];
        }
        switch (what) {
            case 0: return camp.lorries;
            case 1: return camp.sorts;
            case 2: return camp.planeDays;
            case 3: return camp.canRun();
            default: return OUTSIDE;
        }
    }

    public int ofSort(int x, int s, int what) {
        if (!isSortOf(x, s)) {
            return UNKNOWN;
        }
        if (what < 0 || what >= NUMBERS) {
            return OUTSIDE;
        }
        return camps[x].number(s, what);
    }

    public int turn(int x, int s, int what, int v) {
        if (!isSortOf(x, s)) {
            return UNKNOWN;
        }
        if (what < 0 || what >= PLANE || v < LEAST[what] || v > GREATEST[what]) {
            return OUTSIDE;
        }
        int was = camps[x].number(s, what);
        camps[x].setNumber(s, what, v);
        outlook.forget();
        return was;
    }

    // ---- 2 to a day

    public long value(int x, int rule, int n, int end) {
        if (!isCamp(x) || rule < 0 || rule >= RULES || !isDay(n) || end < LOW || end > HIGH) {
            return LOST;
        }
        if (rule == NEVER) {
            return outlook.neverMoved(camps[x], n, end);
        }
        outlook.look(camps[x], rule, n, end, 0);
        return outlook.worthNow();
    }

    public int today(int x, int n, int what) {
        if (!isCamp(x)) {
            return UNKNOWN;
        }
        if (!isDay(n) || what < 0 || what > 1) {
            return OUTSIDE;
        }
        outlook.look(camps[x], BEST, n, LOW, 0);
        int choice = outlook.choiceNow();
        return what == 0 ? choice / 2 : choice % 2;
    }

    public long worth(int x, int s, int n) {
        if (!isSortOf(x, s) || !isDay(n) || camps[x].number(s, GOOD) >= MOST_GOOD) {
            return LOST;
        }
        return bestGain(camps[x], n, s, NONE);
    }

    public int crate(int x, int w, int n, int k) {
        if (!isCamp(x) || k < -1 || k >= camps[x].sorts) {
            return UNKNOWN;
        }
        if (w < 0 || w > MOST_WEIGHT || !isDay(n)) {
            return OUTSIDE;
        }
        outlook.look(camps[x], BEST, n, LOW, MOST_GOOD);
        int filled = outlook.bestFilled(w);
        return k < 0 ? outlook.weightAdded(filled) : outlook.added(filled, k);
    }

    public long lent(int x, int y, int s, int n) {
        if (!isSortOf(x, s) || !isSortOf(y, s) || x == y || !isDay(n)) {
            return LOST;
        }
        if (camps[x].number(s, GOOD) <= 0 || camps[y].number(s, GOOD) >= MOST_GOOD) {
            return LOST;
        }
        return bestGain(camps[x], n, NONE, s) + bestGain(camps[y], n, s, NONE);
    }

    public int both(int x, int y, int s, int t, int n) {
        if (!isSortOf(x, s) || !isSortOf(y, s) || !isSortOf(x, t) || !isSortOf(y, t)) {
            return UNKNOWN;
        }
        if (x == y || s == t || !isDay(n)) {
            return OUTSIDE;
        }
        if (!canSwap(camps[x], s, t) || !canSwap(camps[y], t, s)) {
            return STATE;
        }
        return bestGain(camps[x], n, t, s) > 0 && bestGain(camps[y], n, s, t) > 0 ? 1 : 0;
    }

    // ---- 3 the yard

    public int part(int kind, int sort, int hours) {
        if (kind < 0 || kind >= KINDS || !isYardSort(sort) || hours < 1 || hours > 9) {
            return OUTSIDE;
        }
        return yard.addPart(kind, sort, hours);
    }

    public int ofPart(int p, int what) {
        if (!isPart(p)) {
            return UNKNOWN;
        }
        Part part = yard.parts[p];
        switch (what) {
            case 0: return part.kind();
            case 1: return part.sort;
            case 2: return part.hours;
            case 3: return part.good ? 1 : 0;
            case 4: return part.place == NONE ? NONE : part.place / YARD_SORTS;
            case 5: return part.place == NONE ? NONE : part.place % YARD_SORTS;
            case 6: return part.hidden ? 1 : 0;
            default: return OUTSIDE;
        }
    }

    public int at(int lorry, int sort) {
        if (!isYardLorry(lorry) || !isYardSort(sort)) {
            return UNKNOWN;
        }
        return yard.places[lorry * YARD_SORTS + sort];
    }

    public int fits(int p, int sort) {
        if (!isPart(p) || !isYardSort(sort)) {
            return UNKNOWN;
        }
        return yard.parts[p].hoursFor(sort);
    }

    public int move(int p, int lorry, int sort, int draw) {
        if (!isPart(p) || lorry != NONE && (!isYardLorry(lorry) || !isYardSort(sort))) {
            return UNKNOWN;
        }
        if (draw < 0 || draw >= DRAWS) {
            return OUTSIDE;
        }
        return yard.carry(yard.parts[p], lorry == NONE ? NONE : lorry * YARD_SORTS + sort, draw);
    }

    public int mend(int p, boolean good) {
        if (!isPart(p)) {
            return UNKNOWN;
        }
        return yard.makeGood(yard.parts[p], good);
    }

    public int hide(int p, boolean hidden) {
        if (!isPart(p)) {
            return UNKNOWN;
        }
        return yard.makeHidden(yard.parts[p], hidden);
    }

    public int spoils(int v) {
        if (v < 0 || v > DRAWS) {
            return OUTSIDE;
        }
        int was = yard.spoilsBelow;
        yard.spoilsBelow = v;
        return was;
    }

    public int odds(int sort, int v) {
        if (!isYardSort(sort)) {
            return UNKNOWN;
        }
        if (v < 0 || v > DRAWS) {
            return OUTSIDE;
        }
        int was = yard.breaksBelow[sort];
        yard.breaksBelow[sort] = v;
        return was;
    }

    public int runs() {
        return yard.running();
    }

    public int most(int what) {
        Way way = yard.bestWay();
        switch (what) {
            case 0: return way.count;
            case 1: return way.moves;
            case 2: return way.hours;
            case 3: return way.lorries;
            default: return OUTSIDE;
        }
    }

    public int goes(int p) {
        if (!isPart(p)) {
            return UNKNOWN;
        }
        int place = yard.bestWay().goesTo[p];
        return place == NONE ? NONE : place / YARD_SORTS * 10 + place % YARD_SORTS;
    }

    public int drive(int sheet, int lane, int i, int n) {
        int answer = takeCells(sheet, lane, i, n);
        if (answer != 0) {
            return answer;
        }
        int looked = YARD_SORTS * Integer.bitCount(yard.running());
        if (n < looked || !rows[sheet].areDraws(i, looked)) {
            return OUTSIDE;
        }
        return yard.driveOut(rows[sheet], i);
    }

    // ---- 4 sheets, parts

    public int sheet(int k, int lane, int n) {
        latestFault = 0;
        if (!isSheet(k)) {
            return UNKNOWN;
        }
        if (!isLane(lane) || n > CELLS) {
            return OUTSIDE;
        }
        if (n < 0) {
            return faulty(SIZE_FAULT);
        }
        rows[k].begin(lane, n);
        return 1;
    }

    public int lose(int k) {
        if (!isSheet(k)) {
            return UNKNOWN;
        }
        int had = rows[k].isNothing() ? 0 : 1;
        rows[k].lane = NONE;
        return had;
    }

    public int put(int k, int i, int v) {
        latestFault = 0;
        if (!isSheet(k)) {
            return UNKNOWN;
        }
        if (rows[k].isNothing()) {
            return faulty(NULL_FAULT);
        }
        if (rows[k].lacks(i, 1)) {
            return faulty(INDEX_FAULT);
        }
        rows[k].write(i, v);
        return 1;
    }

    public long cell(int k, int i, int lane) {
        latestFault = 0;
        if (!isSheet(k) || !isLane(lane)) {
            return LOST;
        }
        if (takeRow(rows[k], lane) != 0) {
            return LOST;
        }
        if (rows[k].lacks(i, 1)) {
            faulty(INDEX_FAULT);
            return LOST;
        }
        return rows[k].cells[i];
    }

    public int copy(int k, int i, int other, int j, int n) {
        latestFault = 0;
        if (!isSheet(k) || !isSheet(other)) {
            return UNKNOWN;
        }
        Row from = rows[k];
        Row to = rows[other];
        if (from.isNothing() || to.isNothing()) {
            return faulty(NULL_FAULT);
        }
        if (from.lane != to.lane) {
            return faulty(CAST_FAULT);
        }
        if (n < 0 || from.lacks(i, n) || to.lacks(j, n)) {
            return faulty(INDEX_FAULT);
        }
        System.arraycopy(from.cells, i, to.cells, j, n);
        return n;
    }

    public int tell(int p) {
        if (!isPart(p)) {
            return UNKNOWN;
        }
        return yard.parts[p].telling(traced);
    }

    public int list(int p) {
        if (!isPart(p)) {
            return UNKNOWN;
        }
        return yard.parts[p].listed(traced);
    }

    public int as(int p, int kind) {
        latestFault = 0;
        if (!isPart(p)) {
            return UNKNOWN;
        }
        if (kind < 0 || kind >= KINDS) {
            return OUTSIDE;
        }
        Part part = yard.parts[p];
        boolean isOne = kind == 0 || kind == 1 && part instanceof Filed || kind == 2 && part instanceof Common;
        return isOne ? 1 : faulty(CAST_FAULT);
    }

    public int trace() {
        return traced.left;
    }

    public int fault() {
        return latestFault;
    }

    public int many(int what) {
        switch (what) {
            case 0: return campCount;
            case 1: return yard.count;
            case 2: return yard.countGood();
            case 3: return yard.countHidden();
            default: return OUTSIDE;
        }
    }

    // ---- what the calls look at first

    private boolean isCamp(int x) {
        return x >= 0 && x < campCount;
    }

    private boolean isSortOf(int x, int s) {
        return isCamp(x) && s >= 0 && s < camps[x].sorts;
    }

    private boolean isPart(int p) {
        return p >= 0 && p < yard.count;
    }

    private static boolean isDay(int n) {
        return n >= 1 && n <= DAYS;
    }

    private static boolean isYardLorry(int lorry) {
        return lorry >= 0 && lorry < YARD_LORRIES;
    }

    private static boolean isYardSort(int sort) {
        return sort >= 0 && sort < YARD_SORTS;
    }

    private static boolean isSheet(int k) {
        return k >= 0 && k < SHEETS;
    }

    private static boolean isLane(int lane) {
        return lane >= 0 && lane < LANES;
    }

    private int faulty(int kind) {
        latestFault = kind;
        return -10 - kind;
    }

    /** 0 if the row can be taken as one of the lane, else the fault's answer. */
    private int takeRow(Row row, int lane) {
        if (row.isNothing()) {
            return faulty(NULL_FAULT);
        }
        return row.lane == lane ? 0 : faulty(CAST_FAULT);
    }

    /** 0 if n cells from i on can be taken, else the refusal's or the fault's answer. */
    private int takeCells(int sheet, int lane, int i, int n) {
        latestFault = 0;
        if (!isSheet(sheet)) {
            return UNKNOWN;
        }
        if (!isLane(lane)) {
            return OUTSIDE;
        }
        int answer = takeRow(rows[sheet], lane);
        if (answer != 0) {
            return answer;
        }
        if (n < 0) {
            return faulty(SIZE_FAULT);
        }
        return rows[sheet].lacks(i, n) ? faulty(INDEX_FAULT) : 0;
    }

    /** By how much LOW of BEST is more with one good one got of a sort, one given of another (or NONE). */
    private long bestGain(Camp camp, int n, int got, int given) {
        outlook.look(camp, BEST, n, LOW, 1);
        return outlook.gain(got, given);
    }

    private static boolean canSwap(Camp camp, int given, int got) {
        return camp.number(given, GOOD) > 0 && camp.number(got, GOOD) < MOST_GOOD;
    }

    // ---- classes inside

    /** What the bodies of parts leave behind as they begin. */
    private static final class Trace {
        private int left = 0;

        void leave(int number) {
            left = 31 * left + number;
        }
    }

    /** A row of a sheet; its cells are made once and used again by each new row. */
    private static final class Row {
        private int lane = NONE;
        private int length = 0;
        private final int[] cells = new int[CELLS];

        boolean isNothing() {
            return lane == NONE;
        }

        void begin(int newLane, int newLength) {
            lane = newLane;
            length = newLength;
            Arrays.fill(cells, 0);
        }

        /** n is not below 0 here, so that the difference can't wrap. */
        boolean lacks(int i, int n) {
            return i < 0 || i > length - n;
        }

        void write(int i, int v) {
            if (lane == 0) {
                cells[i] = (byte) v;
            } else if (lane == 1) {
                cells[i] = (short) v;
            } else {
                cells[i] = v;
            }
        }

        boolean areDraws(int from, int n) {
            for (int i = from; i < from + n; i++) {
                if (cells[i] < 0 || cells[i] >= DRAWS) {
                    return false;
                }
            }
            return true;
        }
    }

    /** Reads a TEXT; the place at which it stops reading is the FIRST FAULT. */
    private static final class TextReader {
        private static final char[] LETTERS = {'s', 'h', 'e', 'w'};
        private static final int[] DIGITS = {1, 2, 2, 1};

        private Row row = null;
        private int from = 0;
        private int codes = 0;
        private int place = 0;
        private int lastNumber = 0;
        private int lorries = 0;
        private int sorts = 0;
        private int planeDays = 0;
        private final int[] numbers = new int[MOST_SORTS * NUMBERS];
        private final int[] brings = new int[MOST_LORRIES + 1];

        /** NONE if the cells are a TEXT. */
        int firstFault(Row newRow, int newFrom, int n) {
            row = newRow;
            from = newFrom;
            codes = n;
            place = 0;
            boolean whole = readLorries() && readSorts() && readBrings() && readPlane() && place == codes;
            return whole ? NONE : place;
        }

        private boolean readLorries() {
            if (!readCode('l') || !readNumber(1, 1, MOST_LORRIES)) {
                return false;
            }
            lorries = lastNumber;
            return true;
        }

        /** Reads the ; ahead of what is no sort, too. */
        private boolean readSorts() {
            sorts = 0;
            while (sorts < MOST_SORTS) {
                if (!readCode(';')) {
                    return false;
                }
                if (peek() != 's') {
                    return sorts > 0;
                }
                if (!readSort(sorts)) {
                    return false;
                }
                sorts++;
            }
            return readCode(';');
        }

        private boolean readSort(int s) {
            for (int what = GOOD; what <= WEIGHT; what++) {
                if (!readCode(LETTERS[what]) || !readNumber(DIGITS[what], LEAST[what], GREATEST[what])) {
                    return false;
                }
                numbers[s * NUMBERS + what] = lastNumber;
            }
            numbers[s * NUMBERS + PLANE] = 0;
            return true;
        }

        private boolean readBrings() {
            if (!readCode('b')) {
                return false;
            }
            for (int k = 1; k <= lorries; k++) {
                if (!readNumber(1, 0, 9)) {
                    return false;
                }
                brings[k] = lastNumber;
            }
            return true;
        }

        private boolean readPlane() {
            planeDays = 0;
            if (place == codes) {
                return true;
            }
            if (!readCode(';') || !readCode('p') || !readNumber(1, 1, 9)) {
                return false;
            }
            planeDays = lastNumber;
            for (int s = 0; s < sorts; s++) {
                if (!readNumber(1, LEAST[PLANE], GREATEST[PLANE])) {
                    return false;
                }
                numbers[s * NUMBERS + PLANE] = lastNumber;
            }
            return true;
        }

        /** NONE behind the last code: as a code it stands in no TEXT. */
        private int peek() {
            return peekAt(place);
        }

        private int peekAt(int where) {
            return where < codes ? row.cells[from + where] : NONE;
        }

        private boolean readCode(int code) {
            if (place >= codes || peek() != code) {
                return false;
            }
            place++;
            return true;
        }

        /** Goes on only behind a number that is as told, so that the place stays at its first digit. */
        private boolean readNumber(int digits, int least, int greatest) {
            int number = 0;
            int length = 0;
            while (length < digits && isDigit(peekAt(place + length))) {
                number = number * 10 + peekAt(place + length) - '0';
                length++;
            }
            if (length == 0 || number < least || number > greatest) {
                return false;
            }
            lastNumber = number;
            place += length;
            return true;
        }

        private static boolean isDigit(int code) {
            return code >= '0' && code <= '9';
        }
    }

    private static final class Camp {
        private final int lorries;
        private final int sorts;
        private final int planeDays;
        private final int[] numbers;
        private final int[] brings;

        Camp(TextReader text) {
            lorries = text.lorries;
            sorts = text.sorts;
            planeDays = text.planeDays;
            numbers = Arrays.copyOf(text.numbers, text.numbers.length);
            brings = Arrays.copyOf(text.brings, text.brings.length);
        }

        int number(int s, int what) {
            return numbers[s * NUMBERS + what];
        }

        void setNumber(int s, int what, int v) {
            numbers[s * NUMBERS + what] = v;
        }

        int canRun() {
            int can = lorries;
            for (int s = 0; s < sorts; s++) {
                can = Math.min(can, number(s, GOOD));
            }
            return can;
        }
    }

    /**
     * What a camp brings to a told day, of all its states at once: worths, crates and loans are
     * differences within one such table, so it is kept until another one is asked for. A state is how
     * many good ones there are of each sort, as the digits of one number, the first sort ahead: states
     * in order are rows by sorts in order. The table is no larger than what can be come to.
     */
    private static final class Outlook {
        private static final int STATES = 216;
        private static final long MILLION = 1000000L;
        private static final long[] TWELVES = {1, 12, 144, 1728, 20736};

        private Camp camp = null;
        private int rule = BEST;
        private int days = 0;
        private int end = LOW;
        private int spare = 0;
        private int states = 0;
        private final int[] sizes = new int[MOST_SORTS];
        private final int[] strides = new int[MOST_SORTS];
        private final int[] can = new int[STATES];
        private final long[] worths = new long[STATES];
        private final int[] choices = new int[STATES];
        private final long[] follows = new long[STATES];
        private final long[] means = new long[STATES];
        private final long[] chances = new long[MOST_LORRIES + 1];

        void forget() {
            camp = null;
        }

        /** The table is to hold states with so many (newSpare) more good ones of each sort than now. */
        void look(Camp newCamp, int newRule, int newDays, int newEnd, int newSpare) {
            if (camp == newCamp && rule == newRule && days == newDays && end == newEnd && spare >= newSpare) {
                return;
            }
            camp = newCamp;
            rule = newRule;
            days = newDays;
            end = newEnd;
            spare = newSpare;
            setSizes();
            int lorries = rule == ONE ? camp.lorries - 1 : camp.lorries;
            for (int state = 0; state < states; state++) {
                can[state] = Math.min(lorries, fewestIn(state));
                worths[state] = 0;
            }
            for (int day = days; day >= 1; day--) {
                passDay(day, lorries);
            }
        }

        long worthNow() {
            return worths[stateNow()];
        }

        /** Twice how many run, and 1 if easy. */
        int choiceNow() {
            return choices[stateNow()];
        }

        long gain(int got, int given) {
            int state = stateNow();
            int changed = state + (got == NONE ? 0 : strides[got]) - (given == NONE ? 0 : strides[given]);
            return worths[changed] - worths[state];
        }

        private void setSizes() {
            states = 1;
            for (int s = camp.sorts - 1; s >= 0; s--) {
                boolean grows = camp.planeDays > 0 && camp.number(s, PLANE) > 0;
                sizes[s] = 1 + (grows ? MOST_GOOD : Math.min(MOST_GOOD, camp.number(s, GOOD) + spare));
                strides[s] = states;
                states *= sizes[s];
            }
        }

        private int goodIn(int state, int s) {
            return state / strides[s] % sizes[s];
        }

        private int stateNow() {
            int state = 0;
            for (int s = 0; s < camp.sorts; s++) {
                state += camp.number(s, GOOD) * strides[s];
            }
            return state;
        }

        private int fewestIn(int state) {
            int fewest = MOST_GOOD;
            for (int s = 0; s < camp.sorts; s++) {
                fewest = Math.min(fewest, goodIn(state, s));
            }
            return fewest;
        }

        private int afterPlane(int state) {
            int after = 0;
            for (int s = 0; s < camp.sorts; s++) {
                after += Math.min(MOST_GOOD, goodIn(state, s) + camp.number(s, PLANE)) * strides[s];
            }
            return after;
        }

        /** The most lorries first, hard ahead of easy: of equal ones the first tried is kept. */
        private void passDay(int day, int lorries) {
            boolean comes = camp.planeDays > 0 && day % camp.planeDays == 0;
            for (int state = 0; state < states; state++) {
                follows[state] = worths[comes ? afterPlane(state) : state];
            }
            Arrays.fill(worths, -1);
            for (int k = lorries; k >= 0; k--) {
                for (int easy = 0; easy <= 1; easy++) {
                    if (isTried(k, easy)) {
                        tryDriving(k, easy);
                    }
                }
            }
        }

        private boolean isTried(int k, int easy) {
            if (k == 0) {
                return easy == 0;
            }
            return rule == BEST || (rule == GENTLE) == (easy == 1);
        }

        private void tryDriving(int k, int easy) {
            System.arraycopy(follows, 0, means, 0, states);
            for (int s = camp.sorts - 1; s >= 0; s--) {
                takeMeans(k, s, camp.number(s, easy == 1 ? EASY : HARD));
            }
            long brought = (3 - easy) * MILLION * camp.brings[k];
            for (int state = 0; state < states; state++) {
                boolean may = rule == BEST ? can[state] >= k : can[state] == k;
                if (may && brought + means[state] > worths[state]) {
                    worths[state] = brought + means[state];
                    choices[state] = 2 * k + easy;
                }
            }
        }

        /**
         * In each block of states that differ in this sort or in those behind it, for k or more of it:
         * downwards, as a mean is of its own state and of lower ones that are still as they were.
         */
        private void takeMeans(int k, int s, int h) {
            if (k == 0 || h == 0) {
                return;
            }
            setChances(k, h);
            int stride = strides[s];
            int block = stride * sizes[s];
            for (int start = 0; start < states; start += block) {
                for (int state = start + block - 1; state >= start + k * stride; state--) {
                    means[state] = meanAt(state, stride, k);
                }
            }
        }

        private long meanAt(int at, int stride, int k) {
            long sum = 0;
            int from = at;
            for (int broken = 0; broken <= k; broken++) {
                sum += chances[broken] * means[from];
                from -= stride;
            }
            long all = TWELVES[k];
            return (end == HIGH ? sum + all - 1 : sum) / all;
        }

        /** Of how many of k break by so many twelfths each: the numbers in (12 - h + h x) to the k. */
        private void setChances(int k, int h) {
            Arrays.fill(chances, 0);
            chances[0] = 1;
            for (int lorry = 1; lorry <= k; lorry++) {
                for (int broken = lorry; broken >= 1; broken--) {
                    chances[broken] = chances[broken] * (12 - h) + chances[broken - 1] * h;
                }
                chances[0] *= 12 - h;
            }
        }

        /** By rule NEVER only how many lorries are left counts, so they stand for the states. */
        long neverMoved(Camp newCamp, int newDays, int newEnd) {
            forget();
            end = newEnd;
            int first = newCamp.canRun();
            Arrays.fill(means, 0);
            for (int day = newDays; day >= 1; day--) {
                for (int s = newCamp.sorts - 1; s >= 0; s--) {
                    for (int k = first; k >= 1; k--) {
                        setChances(k, newCamp.number(s, HARD));
                        means[k] = meanAt(k, 1, k);
                    }
                }
                for (int k = 1; k <= first; k++) {
                    means[k] += 3 * MILLION * newCamp.brings[k];
                }
            }
            return means[first];
        }

        int added(int state, int s) {
            return goodIn(state, s) - camp.number(s, GOOD);
        }

        /** The weight of what a state has more than there is now; NONE if it has less of a sort. */
        int weightAdded(int state) {
            int weight = 0;
            for (int s = 0; s < camp.sorts; s++) {
                int more = added(state, s);
                if (more < 0) {
                    return NONE;
                }
                weight += more * camp.number(s, WEIGHT);
            }
            return weight;
        }

        /** The state that the best crate makes; of equal ones the first is kept, as they come by rows. */
        int bestFilled(int w) {
            int best = stateNow();
            int bestWeight = 0;
            for (int state = best; state < states; state++) {
                int weight = weightAdded(state);
                if (weight == NONE || weight > w) {
                    continue;
                }
                if (worths[state] > worths[best] || worths[state] == worths[best] && weight < bestWeight) {
                    best = state;
                    bestWeight = weight;
                }
            }
            return best;
        }
    }

    /** A part of the yard; its place is three times the lorry and the place's sort, or NONE. */
    private static class Part {
        final int number;
        final int sort;
        final int hours;
        boolean good = true;
        boolean hidden = false;
        int place = NONE;

        Part(int number, int sort, int hours) {
            this.number = number;
            this.sort = sort;
            this.hours = hours;
        }

        int kind() {
            return 0;
        }

        int hoursFor(int placeSort) {
            return placeSort == sort ? hours : NONE;
        }

        boolean isUsable() {
            return good && !hidden;
        }

        int telling(Trace trace) {
            return firstTelling(trace);
        }

        /** Apart, so that a COMMON one can come to it past FILED's. */
        final int firstTelling(Trace trace) {
            trace.leave(1);
            return hours;
        }

        int listed(Trace trace) {
            trace.leave(4);
            return number;
        }
    }

    private static class Filed extends Part {
        Filed(int number, int sort, int hours) {
            super(number, sort, hours);
        }

        int kind() {
            return 1;
        }

        int hoursFor(int placeSort) {
            return placeSort == (sort + 1) % YARD_SORTS ? hours + 2 : super.hoursFor(placeSort);
        }

        int telling(Trace trace) {
            trace.leave(2);
            return super.telling(trace) + 100;
        }
    }

    private static final class Common extends Filed {
        Common(int number, int sort, int hours) {
            super(number, sort, hours);
        }

        int kind() {
            return 2;
        }

        int hoursFor(int placeSort) {
            return placeSort == sort ? hours : hours + 1;
        }

        int telling(Trace trace) {
            trace.leave(3);
            return super.telling(trace) + firstTelling(trace);
        }

        int listed(Trace trace) {
            trace.leave(5);
            return 60;
        }
    }

    private static final class Yard {
        private final Part[] parts = new Part[PARTS];
        private int count = 0;
        private final int[] places = new int[PLACES];
        private int spoilsBelow = 3;
        private final int[] breaksBelow = {2, 2, 2};
        private final Way way = new Way();
        private boolean wayIsKnown = false;

        Yard() {
            Arrays.fill(places, NONE);
        }

        int addPart(int kind, int sort, int hours) {
            if (count >= PARTS) {
                return FULL;
            }
            if (kind == 2) {
                parts[count] = new Common(count, sort, hours);
            } else if (kind == 1) {
                parts[count] = new Filed(count, sort, hours);
            } else {
                parts[count] = new Part(count, sort, hours);
            }
            wayIsKnown = false;
            count++;
            return count - 1;
        }

        int carry(Part part, int place, int draw) {
            if (part.hidden || part.place == place) {
                return STATE;
            }
            int needed = place == NONE ? 0 : part.hoursFor(place % YARD_SORTS);
            if (needed == NONE || place != NONE && places[place] != NONE) {
                return STATE;
            }
            takeOff(part, draw);
            part.place = place;
            if (place != NONE) {
                places[place] = part.number;
            }
            wayIsKnown = false;
            return needed;
        }

        private void takeOff(Part part, int draw) {
            if (part.place == NONE) {
                return;
            }
            places[part.place] = NONE;
            if (draw < spoilsBelow) {
                part.good = false;
            }
        }

        int makeGood(Part part, boolean good) {
            if (part.good == good) {
                return 0;
            }
            part.good = good;
            wayIsKnown = false;
            return 1;
        }

        int makeHidden(Part part, boolean hidden) {
            if (part.place != NONE) {
                return STATE;
            }
            if (part.hidden == hidden) {
                return 0;
            }
            part.hidden = hidden;
            wayIsKnown = false;
            return 1;
        }

        int running() {
            int set = 0;
            for (int lorry = 0; lorry < YARD_LORRIES; lorry++) {
                if (canGo(lorry)) {
                    set |= 1 << lorry;
                }
            }
            return set;
        }

        private boolean canGo(int lorry) {
            for (int sort = 0; sort < YARD_SORTS; sort++) {
                int held = places[lorry * YARD_SORTS + sort];
                if (held == NONE || !parts[held].good) {
                    return false;
                }
            }
            return true;
        }

        /** The row has a draw for each part of the lorries that run: that was looked at before. */
        int driveOut(Row draws, int from) {
            int set = running();
            int next = from;
            int broken = 0;
            for (int place = 0; place < PLACES; place++) {
                if ((set >> place / YARD_SORTS & 1) == 0) {
                    continue;
                }
                Part part = parts[places[place]];
                if (draws.cells[next] < breaksBelow[part.sort]) {
                    part.good = false;
                    broken++;
                }
                next++;
            }
            wayIsKnown = false;
            return broken;
        }

        Way bestWay() {
            if (!wayIsKnown) {
                way.find(parts, count);
                wayIsKnown = true;
            }
            return way;
        }

        int countGood() {
            int goodOnes = 0;
            for (int p = 0; p < count; p++) {
                goodOnes += parts[p].good ? 1 : 0;
            }
            return goodOnes;
        }

        int countHidden() {
            int hiddenOnes = 0;
            for (int p = 0; p < count; p++) {
                hiddenOnes += parts[p].hidden ? 1 : 0;
            }
            return hiddenOnes;
        }
    }

    /**
     * The way of MOST. For each set of so many lorries parts are given to places for the least price in
     * all, place after place with prices lowered as needed (Kuhn's and Munkres' method). A price tells
     * moves, hours and, as the digits to the base of 12 of a number, the row of parts: so the least one
     * is the first row as well.
     */
    private static final class Way {
        private static final int HOURS_BOUND = 256;
        private static final long ROWS = 8916100448256L;
        private static final long NO_FIT = 1L << 57;
        private static final long FAR = 1L << 62;

        private int count = 0;
        private int moves = 0;
        private int hours = 0;
        private int lorries = 0;
        private final int[] goesTo = new int[PARTS];

        private Part[] parts = null;
        private int partCount = 0;
        private int wanted = 0;
        private final int[] wantedPlaces = new int[PLACES];
        private final long[] prices = new long[PLACES * PARTS];
        // From here on number 0 is nobody: the first place and the first part have number 1.
        private final long[] placeBids = new long[PLACES + 1];
        private final long[] partBids = new long[PARTS + 1];
        private final long[] slacks = new long[PARTS + 1];
        private final int[] holders = new int[PARTS + 1];
        private final int[] befores = new int[PARTS + 1];
        private final boolean[] seen = new boolean[PARTS + 1];

        void find(Part[] newParts, int newCount) {
            parts = newParts;
            partCount = newCount;
            count = mostLorries();
            long least = FAR;
            for (int set = 0; set < 1 << YARD_LORRIES; set++) {
                if (Integer.bitCount(set) != count) {
                    continue;
                }
                long price = priceOf(set) / ROWS;
                if (price < least) {
                    least = price;
                    keep(set, price);
                }
            }
        }

        /** So many can run as the parts for each set of sorts allow (Hall's theorem). */
        private int mostLorries() {
            int most = YARD_LORRIES;
            for (int sorts = 1; sorts < 1 << YARD_SORTS; sorts++) {
                most = Math.min(most, usableFor(sorts) / Integer.bitCount(sorts));
            }
            return most;
        }

        private int usableFor(int sorts) {
            int usable = 0;
            for (int p = 0; p < partCount; p++) {
                if (parts[p].isUsable() && fitsOneOf(parts[p], sorts)) {
                    usable++;
                }
            }
            return usable;
        }

        private static boolean fitsOneOf(Part part, int sorts) {
            for (int sort = 0; sort < YARD_SORTS; sort++) {
                if ((sorts >> sort & 1) == 1 && part.hoursFor(sort) != NONE) {
                    return true;
                }
            }
            return false;
        }

        private long priceOf(int set) {
            setPrices(set);
            Arrays.fill(placeBids, 0);
            Arrays.fill(partBids, 0);
            Arrays.fill(holders, 0);
            for (int number = 1; number <= wanted; number++) {
                givePartTo(number);
            }
            long sum = 0;
            for (int p = 1; p <= partCount; p++) {
                sum += holders[p] == 0 ? 0 : prices[(holders[p] - 1) * PARTS + p - 1];
            }
            return sum;
        }

        private void setPrices(int set) {
            wanted = 0;
            for (int place = 0; place < PLACES; place++) {
                if ((set >> place / YARD_SORTS & 1) == 1) {
                    wantedPlaces[wanted] = place;
                    wanted++;
                }
            }
            long digit = 1;
            for (int number = wanted - 1; number >= 0; number--) {
                for (int p = 0; p < partCount; p++) {
                    prices[number * PARTS + p] = price(parts[p], wantedPlaces[number]) + p * digit;
                }
                digit *= PARTS;
            }
        }

        private static long price(Part part, int place) {
            int needed = part.hoursFor(place % YARD_SORTS);
            if (!part.isUsable() || needed == NONE) {
                return NO_FIT;
            }
            return part.place == place ? 0 : (HOURS_BOUND + needed) * ROWS;
        }

        /** Follows the cheapest chain of places that give way to a part that nobody holds. */
        private void givePartTo(int number) {
            for (int p = 0; p <= partCount; p++) {
                slacks[p] = FAR;
                seen[p] = false;
            }
            holders[0] = number;
            int part = 0;
            for (int step = 0; step <= partCount && holders[part] != 0; step++) {
                seen[part] = true;
                findSlacks(part);
                part = nearest();
                lowerBids(slacks[part]);
            }
            for (int step = 0; step <= partCount && part != 0; step++) {
                int before = befores[part];
                holders[part] = holders[before];
                part = before;
            }
        }

        private void findSlacks(int part) {
            int number = holders[part];
            for (int p = 1; p <= partCount; p++) {
                if (seen[p]) {
                    continue;
                }
                long slack = prices[(number - 1) * PARTS + p - 1] - placeBids[number] - partBids[p];
                if (slack < slacks[p]) {
                    slacks[p] = slack;
                    befores[p] = part;
                }
            }
        }

        private int nearest() {
            int nearest = 0;
            for (int p = 1; p <= partCount; p++) {
                if (!seen[p] && slacks[p] < slacks[nearest]) {
                    nearest = p;
                }
            }
            return nearest;
        }

        private void lowerBids(long by) {
            for (int p = 0; p <= partCount; p++) {
                if (seen[p]) {
                    placeBids[holders[p]] += by;
                    partBids[p] -= by;
                } else {
                    slacks[p] -= by;
                }
            }
        }

        private void keep(int set, long price) {
            lorries = set;
            moves = (int) (price / HOURS_BOUND);
            hours = (int) (price % HOURS_BOUND);
            for (int p = 1; p <= partCount; p++) {
                goesTo[p - 1] = holders[p] == 0 ? NONE : wantedPlaces[holders[p] - 1];
            }
        }
    }
}
