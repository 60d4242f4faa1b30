import java.util.Arrays;

/** Fences that walk down a slope to the sea. ../shared/DOC.md says what each call answers. */
public final class WalkFence {

    public static final int NONE = -1;
    public static final long NOTHING = -1000000000000000L;

    private static final int TAPE_BYTES = 1600;
    private static final int FEED_BYTES = 20;
    private static final int COLUMNS = 6;
    private static final int ROWS = 30;
    private static final int LEAST_ROWS = 4;
    private static final int FENCES = 6;
    private static final int LETTERS = 6;
    private static final int DIGITS = 4;
    private static final int STATEMENTS = 80;
    private static final int TOLD_POSTS = 12;
    private static final int POSTS = 24;
    private static final int OPEN_AT_ONCE = 6;
    private static final int STEEPEST = 9;
    private static final int FARTHEST = 9;
    private static final int OLDEST = 99;
    private static final int LAST_YEAR = 999;
    private static final int LIMIT = 1000000;
    private static final int AHEAD_YEARS = 60;
    private static final int SETS_YEARS = 30;
    private static final int IRONS_YEARS = 20;
    private static final int REST_YEARS = 30;
    private static final int SEEN_YEARS = 30;
    private static final int ACT_YEARS = 100;
    private static final int SEEN_ROWS = 16;
    private static final int KEPT_NOTES = 40;
    private static final int UNDOABLE = 20;
    private static final int REFUSALS = 6;
    private static final int GONE = -1;
    /** In bytes: a stake that is GONE, a place of the MOOR; in what is KEPT: a FENCE that is SET. */
    private static final int NO_BYTE = 255;

    /** The words by number; the first OWN_WORDS of them can't be NAMES. */
    private static final String WORDS = "slope by steep iron fence row age stake walks roots tide year left number field cut first below or and not all min max last often total most least ";
    private static final int OWN_WORDS = 24;
    private static final int SLOPE = 0;
    private static final int BY = 1;
    private static final int STEEP = 2;
    private static final int IRON = 3;
    private static final int FENCE = 4;
    private static final int ROW = 5;
    private static final int AGE = 6;
    private static final int STAKE = 7;
    private static final int WALKS = 8;
    private static final int ROOTS = 9;
    private static final int TIDE = 10;
    private static final int YEAR = 11;
    private static final int LEFT = 12;
    private static final int NUMBER = 13;
    private static final int FIELD = 14;
    private static final int CUT = 15;
    private static final int FIRST = 16;
    private static final int BELOW = 17;
    private static final int OR = 18;
    private static final int AND = 19;
    private static final int NOT = 20;
    private static final int ALL = 21;
    private static final int MIN = 22;
    private static final int MAX = 23;
    private static final int LAST = 24;
    private static final int OFTEN = 25;
    private static final int TOTAL = 26;
    private static final int MOST = 27;
    private static final int LEAST = 28;

    /** Which words are a PART by themselves, as bits by the word's number. */
    private static final int WALKS_PARTS = 1 << AGE | 1 << STEEP | 1 << YEAR | 1 << ROW;
    private static final int ROOTS_PARTS = 1 << AGE | 1 << STEEP | 1 << YEAR | 1 << LEFT;
    private static final int QUESTION_PARTS =
            1 << NUMBER | 1 << AGE | 1 << LEFT | 1 << FIELD | 1 << CUT | 1 << YEAR;
    private static final int NO_WORDS = 0;
    /** Which words ask something of the PART behind them. */
    private static final int QUESTION_ASKERS = 1 << ROW | 1 << BELOW;

    /** Steps below PARTS_FROM put themselves as a number, those below PAIRS_FROM a PART by its word. */
    private static final int PARTS_FROM = 10000;
    private static final int PAIRS_FROM = 20000;
    private static final int ADD = 20000;
    private static final int SUBTRACT = 20001;
    private static final int TIMES = 20002;
    private static final int OVER = 20003;
    private static final int IS_LESS = 20004;
    private static final int IS_MORE = 20005;
    private static final int IS_LIKE = 20006;
    private static final int LESSER = 20007;
    private static final int GREATER = 20008;
    private static final int BOTH_HOLD = 20009;
    private static final int ONE_HOLDS = 20010;
    private static final int SINGLES_FROM = 30000;
    private static final int HOLDS_NOT = 30000;
    private static final int ROW_IN = 30001;
    private static final int BELOW_THAT = 30002;

    private final Tape tape = new Tape();
    private Slope slope = new Slope();
    private Slope draft = new Slope();
    private final Reader reader = new Reader(tape, draft);
    private final Lay now = new Lay();
    private final Walker walker = new Walker(slope);
    private final Foresight foresight = new Foresight(now, walker);
    private final Log log = new Log();
    private final History history = new History();
    private final Seen seen = new Seen();
    private final Image latest = new Image();
    private final int[] refused = new int[REFUSALS];
    private int draws = 1;

    public WalkFence() {
    }

    public int feed(int a, int b, int c, int d, int e) {
        if (tape.length + FEED_BYTES > TAPE_BYTES) {
            return refuse(0);
        }
        tape.append(a);
        tape.append(b);
        tape.append(c);
        tape.append(d);
        tape.append(e);
        return tape.length;
    }

    public boolean end(int n) {
        if (n < 0 || n > tape.length) {
            refuse(0);
            return false;
        }
        tape.length = n;
        return true;
    }

    public int slope() {
        boolean right = reader.readSlope(draft);
        tape.length = 0;
        if (!right) {
            return refuse(1);
        }
        Slope told = draft;
        draft = slope;
        slope = told;
        walker.slope = slope;
        beginAnew(slope.start);
        seen.count = 0;
        return slope.statements;
    }

    public int fault(int what) {
        switch (what) {
            case 0: return reader.fault;
            case 1: return reader.faultAt;
            default: return NONE;
        }
    }

    public int has(int what) {
        switch (what) {
            case 0: return slope.columns;
            case 1: return slope.rows;
            case 2: return slope.fences;
            case 3: return now.year;
            case 4: return now.countPosts();
            case 5: return countStakes();
            case 6: return Integer.bitCount(now.cuts);
            case 7: return countMoor();
            case 8: return log.count;
            case 9: return seen.count;
            case 10: return history.count;
            default: return NONE;
        }
    }

    public int letter(int fence, int k) {
        return slope.hasFence(fence) && k >= 0 && k < LETTERS ? slope.names[fence * LETTERS + k] : NONE;
    }

    public int place(int column, int row, int what) {
        if (!slope.hasPlace(column, row)) {
            return NONE;
        }
        switch (what) {
            case 0: return now.ownerOf(column, row);
            case 1: return now.hasPost(column, row) ? 1 : 0;
            case 2: return now.stakesAt(column, row);
            default: return NONE;
        }
    }

    public int fence(int fence, int what) {
        if (!slope.hasFence(fence)) {
            return NONE;
        }
        switch (what) {
            case 0: return now.ages[fence];
            case 1: return now.fieldOf(fence, slope.rows);
            case 2: return now.leftOf(fence);
            case 3: return now.isCut(fence) ? 1 : 0;
            default: return NONE;
        }
    }

    public int stake(int fence, int column) {
        int row = now.rowOf(fence, column);
        return row == GONE ? NONE : row;
    }

    public int walks(int fence, int column) {
        int row = now.rowOf(fence, column);
        if (row == GONE) {
            return NONE;
        }
        walker.face(now, fence);
        return walker.paces(column, row);
    }

    public int kept(int k, int what) {
        return log.tell(k, what);
    }

    public int later(int fence, int n, int what) {
        if (!slope.hasFence(fence) || n < 0 || n > yearsAtMost(AHEAD_YEARS)) {
            return NONE;
        }
        Lay then = foresight.goAhead(n);
        switch (what) {
            case 0: return then.fieldOf(fence, slope.rows);
            case 1: return then.leftOf(fence);
            case 2: return then.ages[fence];
            default: return NONE;
        }
    }

    public int whose(int column, int row, int n) {
        if (!slope.hasPlace(column, row) || n < 0 || n > yearsAtMost(AHEAD_YEARS)) {
            return NONE;
        }
        return foresight.goAhead(n).ownerOf(column, row);
    }

    public int meets(int one, int other) {
        if (!areTwoFences(one, other)) {
            return NONE;
        }
        return foresight.firstMeeting(one, other, yearsAtMost(AHEAD_YEARS));
    }

    public int below(int one, int other) {
        return areTwoFences(one, other) ? now.columnsBelow(one, other) : NONE;
    }

    public int sets(int fence, int n, int what) {
        if (!slope.hasFence(fence) || n < 1 || n > yearsAtMost(SETS_YEARS) || what < 0 || what > 1) {
            return NONE;
        }
        int best = foresight.leastField(fence, n, NONE);
        int when = NONE;
        for (int k = 0; k < n; k++) {
            int least = foresight.leastField(fence, n, k);
            if (least > best) {
                best = least;
                when = k;
            }
        }
        return what == 0 ? when : best;
    }

    public int irons(int fence, int n, int what) {
        if (!slope.hasFence(fence) || n < 1 || n > yearsAtMost(IRONS_YEARS) || now.countPosts() >= POSTS) {
            return NONE;
        }
        foresight.findIron(fence, n);
        switch (what) {
            case 0: return foresight.ironColumn;
            case 1: return foresight.ironRow;
            case 2: return foresight.ironColumn == NONE ? NONE : foresight.ironField;
            default: return NONE;
        }
    }

    public int rest(int n) {
        if (!slope.isTold() || n < 1 || n > yearsAtMost(REST_YEARS)) {
            return NONE;
        }
        return foresight.findRest(n);
    }

    public int see() {
        boolean right = slope.isTold() && seen.readFrom(tape, slope);
        tape.length = 0;
        return right ? seen.count : refuse(1);
    }

    public int fits(int what) {
        if (!slope.isTold()) {
            return NONE;
        }
        foresight.findFits(seen, yearsAtMost(SEEN_YEARS));
        switch (what) {
            case 0: return foresight.fitting;
            case 1: return foresight.firstFit;
            case 2: return foresight.lastFit;
            default: return NONE;
        }
    }

    public int tells(int what) {
        if (!slope.isTold()) {
            return NONE;
        }
        foresight.findTelling(seen, yearsAtMost(SEEN_YEARS));
        switch (what) {
            case 0: return foresight.tellingColumn;
            case 1: return foresight.tellingRow;
            case 2: return foresight.tellingColumn == NONE ? NONE : foresight.mostLeft;
            default: return NONE;
        }
    }

    public boolean set(int fence) {
        if (!slope.hasFence(fence)) {
            refuse(2);
            return false;
        }
        beginAct();
        now.plant(fence, slope.columns);
        return true;
    }

    public boolean cut(int fence) {
        if (!slope.hasFence(fence) || now.isCut(fence)) {
            refuse(2);
            return false;
        }
        beginAct();
        now.cuts |= 1 << fence;
        return true;
    }

    public int iron(int column, int row) {
        if (!slope.hasPlace(column, row) || now.hasPost(column, row) || now.countPosts() >= POSTS) {
            return refuse(2);
        }
        beginAct();
        now.drive(column, row);
        return now.countPosts();
    }

    public int years(int n) {
        if (!slope.isTold() || n < 1 || n > yearsAtMost(ACT_YEARS)) {
            return refuse(3);
        }
        beginAct();
        int went = 0;
        for (int i = 0; i < n; i++) {
            went += walker.passYear(now, log);
        }
        return went;
    }

    public int chance(int n) {
        if (!slope.isTold() || n < 1 || n > yearsAtMost(ACT_YEARS)) {
            return refuse(3);
        }
        beginAct();
        int tides = 0;
        for (int i = 0; i < n; i++) {
            if (draw(100) < slope.tide && slope.fences > 0) {
                tides++;
                washOut(draw(slope.fences), draw(slope.columns));
            }
            walker.passYear(now, log);
        }
        return tides;
    }

    public boolean undo() {
        if (!history.giveBack(now, log)) {
            refuse(4);
            return false;
        }
        foresight.forget();
        return true;
    }

    public boolean seed(int seed) {
        if (seed < 0) {
            refuse(5);
            return false;
        }
        draws = seed;
        return true;
    }

    public long ask() {
        if (!slope.isTold()) {
            tape.length = 0;
            return NOTHING;
        }
        boolean right = reader.readQuestion(draft);
        tape.length = 0;
        return right ? answer(reader.question) : NOTHING;
    }

    public int image() {
        latest.write(now, slope);
        return latest.length;
    }

    public int octet(int k) {
        return k >= 0 && k < latest.length ? latest.bytes[k] & 255 : NONE;
    }

    public boolean on() {
        boolean right = slope.isTold() && latest.read(tape, slope, foresight.lay);
        tape.length = 0;
        if (!right) {
            refuse(5);
            return false;
        }
        beginAnew(foresight.lay);
        return true;
    }

    public int status(int what) {
        return what >= 0 && what < REFUSALS ? refused[what] : NONE;
    }

    /** All lies as told; nothing is KEPT or can be undone. */
    private void beginAnew(Lay told) {
        now.takeFrom(told);
        log.clear();
        history.clear();
        foresight.forget();
    }

    private void beginAct() {
        history.keep(now, log);
        foresight.forget();
    }

    private int refuse(int kind) {
        if (kind >= 0 && kind < REFUSALS) {
            refused[kind]++;
        }
        return NONE;
    }

    private int yearsAtMost(int years) {
        return Math.min(years, LAST_YEAR - now.year);
    }

    private boolean areTwoFences(int one, int other) {
        return slope.hasFence(one) && slope.hasFence(other) && one != other;
    }

    private int countStakes() {
        int standing = 0;
        for (int f = 0; f < slope.fences; f++) {
            standing += now.leftOf(f);
        }
        return standing;
    }

    private int countMoor() {
        int moor = slope.columns * slope.rows;
        for (int f = 0; f < slope.fences; f++) {
            moor -= now.fieldOf(f, slope.rows);
        }
        return moor;
    }

    private int draw(int m) {
        // The wrap-around of int loses nothing: only the lowest 31 bits count.
        draws = (1103515245 * draws + 12345) & 0x7fffffff;
        return m > 0 ? draws / 64 % m : 0;
    }

    private void washOut(int fence, int column) {
        // A stake that is GONE already does not go by this tide, so it is not KEPT again.
        if (now.rowOf(fence, column) != GONE) {
            now.putStake(fence, column, GONE);
            log.note(now.year, fence, column);
        }
    }

    private long answer(int question) {
        long told = question == FIRST || question == LAST ? NONE : 0;
        for (int f = 0; f < slope.fences; f++) {
            int value = walker.reckonQuestion(draft, now, f);
            switch (question) {
                case FIRST:
                    told = told == NONE && value != 0 ? f : told;
                    break;
                case LAST:
                    told = value != 0 ? f : told;
                    break;
                case MOST:
                    told = f == 0 ? value : Math.max(told, value);
                    break;
                case LEAST:
                    told = f == 0 ? value : Math.min(told, value);
                    break;
                default:
                    // OFTEN and TOTAL: a TEST that holds counts 1.
                    told += value;
                    break;
            }
        }
        return told;
    }

    /** The bytes that were fed and not yet used. */
    private static final class Tape {
        final byte[] bytes = new byte[TAPE_BYTES];
        int length;

        void append(int number) {
            for (int shift = 24; shift >= 0 && length < TAPE_BYTES; shift -= 8) {
                bytes[length] = (byte) (number >> shift);
                length++;
            }
        }

        int byteAt(int k) {
            return k >= 0 && k < length ? bytes[k] & 255 : NONE;
        }
    }

    /** What a text tells, and its SUM of walks and TEST of roots as steps. */
    private static final class Slope {
        int statements;
        int columns;
        int rows;
        int fences;
        int tide;
        final int[] steep = new int[COLUMNS];
        final int[] names = new int[FENCES * LETTERS];
        final Lay start = new Lay();
        /** One row serves walks and roots: each step takes a byte of one tape at least. */
        final int[] steps = new int[TAPE_BYTES];
        int walksFrom;
        int walksTo;
        int rootsFrom;
        int rootsTo;

        void clear() {
            statements = 0;
            columns = 0;
            rows = 0;
            fences = 0;
            tide = 0;
            walksFrom = 0;
            walksTo = 0;
            rootsFrom = 0;
            rootsTo = 0;
            start.clear();
            Arrays.fill(steep, 1);
            Arrays.fill(names, 0);
        }

        boolean isTold() {
            return columns > 0;
        }

        boolean hasFence(int fence) {
            return fence >= 0 && fence < fences && fence < FENCES;
        }

        boolean hasPlace(int column, int row) {
            return column >= 0 && column < columns && row >= 0 && row < rows;
        }

        int steepOf(int column) {
            return column >= 0 && column < COLUMNS ? steep[column] : 0;
        }
    }

    /** How all lies at one time: what ACTS and YEARS change. */
    private static final class Lay {
        int year;
        /** A bit for each FENCE that is CUT. */
        int cuts;
        final int[] ages = new int[FENCES];
        /** For each column a bit for each row with a POST. */
        final int[] posts = new int[COLUMNS];
        /** Those of FENCES and columns that there are not are GONE, so that none counts them. */
        final int[] stakes = new int[FENCES * COLUMNS];

        Lay() {
            Arrays.fill(stakes, GONE);
        }

        void clear() {
            year = 0;
            cuts = 0;
            Arrays.fill(ages, 0);
            Arrays.fill(posts, 0);
            Arrays.fill(stakes, GONE);
        }

        void takeFrom(Lay other) {
            year = other.year;
            cuts = other.cuts;
            System.arraycopy(other.ages, 0, ages, 0, FENCES);
            System.arraycopy(other.posts, 0, posts, 0, COLUMNS);
            System.arraycopy(other.stakes, 0, stakes, 0, FENCES * COLUMNS);
        }

        /** One FENCE's stakes alone; its FIELD asks no more. */
        void takeStakes(Lay other, int fence) {
            if (fence >= 0 && fence < FENCES) {
                System.arraycopy(other.stakes, fence * COLUMNS, stakes, fence * COLUMNS, COLUMNS);
            }
        }

        int rowOf(int fence, int column) {
            return isStake(fence, column) ? stakes[fence * COLUMNS + column] : GONE;
        }

        void putStake(int fence, int column, int row) {
            if (isStake(fence, column)) {
                stakes[fence * COLUMNS + column] = row;
            }
        }

        private static boolean isStake(int fence, int column) {
            return fence >= 0 && fence < FENCES && column >= 0 && column < COLUMNS;
        }

        void plant(int fence, int columns) {
            for (int c = 0; c < columns; c++) {
                putStake(fence, c, 0);
            }
            putAge(fence, 0);
        }

        void putAge(int fence, int age) {
            if (fence >= 0 && fence < FENCES) {
                ages[fence] = age;
            }
        }

        int ageOf(int fence) {
            return fence >= 0 && fence < FENCES ? ages[fence] : 0;
        }

        boolean isCut(int fence) {
            return fence >= 0 && fence < FENCES && (cuts >> fence & 1) != 0;
        }

        int postsOf(int column) {
            return column >= 0 && column < COLUMNS ? posts[column] : 0;
        }

        boolean hasPost(int column, int row) {
            return row >= 0 && row < ROWS && (postsOf(column) >> row & 1) != 0;
        }

        void drive(int column, int row) {
            if (column >= 0 && column < COLUMNS && row >= 0 && row < ROWS) {
                posts[column] |= 1 << row;
            }
        }

        int countPosts() {
            int count = 0;
            for (int c = 0; c < COLUMNS; c++) {
                count += Integer.bitCount(posts[c]);
            }
            return count;
        }

        int leftOf(int fence) {
            int left = 0;
            for (int c = 0; c < COLUMNS; c++) {
                left += rowOf(fence, c) == GONE ? 0 : 1;
            }
            return left;
        }

        int stakesAt(int column, int row) {
            int count = 0;
            for (int f = 0; f < FENCES; f++) {
                count += rowOf(f, column) == row ? 1 : 0;
            }
            return count;
        }

        int ownerOf(int column, int row) {
            int owner = NONE;
            int nearest = GONE;
            for (int f = 0; f < FENCES; f++) {
                int at = rowOf(f, column);
                if (at <= row && at > nearest) {
                    nearest = at;
                    owner = f;
                }
            }
            return owner;
        }

        int fieldOf(int fence, int rows) {
            int field = 0;
            for (int c = 0; c < COLUMNS; c++) {
                field += fieldIn(c, fence, rows);
            }
            return field;
        }

        private int fieldIn(int column, int fence, int rows) {
            int top = rowOf(fence, column);
            if (top == GONE) {
                return 0;
            }
            int end = rows;
            for (int f = 0; f < FENCES; f++) {
                int at = rowOf(f, column);
                if (at == top && f < fence) {
                    return 0;
                }
                if (at > top && at < end) {
                    end = at;
                }
            }
            return end - top;
        }

        int columnsBelow(int one, int other) {
            int count = 0;
            for (int c = 0; c < COLUMNS; c++) {
                int upper = rowOf(other, c);
                count += upper != GONE && rowOf(one, c) > upper ? 1 : 0;
            }
            return count;
        }

        boolean meetSomewhere(int one, int other) {
            for (int c = 0; c < COLUMNS; c++) {
                int row = rowOf(one, c);
                if (row != GONE && row == rowOf(other, c)) {
                    return true;
                }
            }
            return false;
        }
    }

    /** What is KEPT, the last ones. */
    private static final class Log {
        final int[] notes = new int[KEPT_NOTES];
        int oldest;
        int count;

        void clear() {
            oldest = 0;
            count = 0;
        }

        void takeFrom(Log other) {
            oldest = other.oldest;
            count = other.count;
            System.arraycopy(other.notes, 0, notes, 0, KEPT_NOTES);
        }

        void note(int year, int fence, int column) {
            int at = (oldest + count) % KEPT_NOTES;
            if (at < 0) {
                return;
            }
            notes[at] = year << 16 | fence << 8 | column;
            if (count < KEPT_NOTES) {
                count++;
            } else {
                oldest = (oldest + 1) % KEPT_NOTES;
            }
        }

        int tell(int k, int what) {
            if (k < 0 || k >= count) {
                return NONE;
            }
            int at = (oldest + k) % KEPT_NOTES;
            int note = at < 0 ? 0 : notes[at];
            switch (what) {
                case 0: return note >> 16;
                case 1: return note >> 8 & 255;
                case 2: return note & 255;
                default: return NONE;
            }
        }
    }

    /** How all lay ahead of each ACT that can be undone, in a ring. */
    private static final class History {
        final Lay[] lays = new Lay[UNDOABLE];
        final Log[] logs = new Log[UNDOABLE];
        int next;
        int count;

        History() {
            for (int k = 0; k < UNDOABLE; k++) {
                lays[k] = new Lay();
                logs[k] = new Log();
            }
        }

        void clear() {
            count = 0;
        }

        void keep(Lay lay, Log log) {
            if (!hasRing(next)) {
                return;
            }
            lays[next].takeFrom(lay);
            logs[next].takeFrom(log);
            next = (next + 1) % UNDOABLE;
            count = Math.min(UNDOABLE, count + 1);
        }

        boolean giveBack(Lay lay, Log log) {
            int latest = (next + UNDOABLE - 1) % UNDOABLE;
            if (count <= 0 || !hasRing(latest)) {
                return false;
            }
            lay.takeFrom(lays[latest]);
            log.takeFrom(logs[latest]);
            next = latest;
            count--;
            return true;
        }

        private boolean hasRing(int k) {
            return k >= 0 && k < UNDOABLE && lays[k] != null && logs[k] != null;
        }
    }

    /** What is SEEN. */
    private static final class Seen {
        final int[] columns = new int[SEEN_ROWS];
        final int[] rows = new int[SEEN_ROWS];
        final int[] owners = new int[SEEN_ROWS];
        int count;

        boolean readFrom(Tape tape, Slope slope) {
            int told = tape.length / 3;
            if (told < 1 || told > SEEN_ROWS || told * 3 != tape.length) {
                return false;
            }
            for (int k = 0; k < told; k++) {
                int owner = tape.byteAt(3 * k + 2);
                boolean known = owner == NO_BYTE || slope.hasFence(owner);
                if (!known || !slope.hasPlace(tape.byteAt(3 * k), tape.byteAt(3 * k + 1))) {
                    return false;
                }
            }
            for (int k = 0; k < told; k++) {
                int owner = tape.byteAt(3 * k + 2);
                columns[k] = tape.byteAt(3 * k);
                rows[k] = tape.byteAt(3 * k + 1);
                owners[k] = owner == NO_BYTE ? NONE : owner;
            }
            count = told;
            return true;
        }

        boolean isSo(Lay lay) {
            for (int k = 0; k < count && k < SEEN_ROWS; k++) {
                if (lay.ownerOf(columns[k], rows[k]) != owners[k]) {
                    return false;
                }
            }
            return true;
        }
    }

    /** AN IMAGE as bytes. */
    private static final class Image {
        static final int MOST_BYTES = 3 + 2 * POSTS + FENCES * (2 + COLUMNS) + 1;
        static final int CHECK_FROM = 131;

        final byte[] bytes = new byte[MOST_BYTES];
        int length;

        void write(Lay lay, Slope slope) {
            length = 0;
            add(lay.year / 256);
            add(lay.year % 256);
            add(lay.countPosts());
            for (int c = 0; c < slope.columns; c++) {
                for (int r = 0; r < slope.rows; r++) {
                    if (lay.hasPost(c, r)) {
                        add(c);
                        add(r);
                    }
                }
            }
            for (int f = 0; f < slope.fences; f++) {
                add(lay.ageOf(f));
                add(lay.isCut(f) ? 1 : 0);
                for (int c = 0; c < slope.columns; c++) {
                    int row = lay.rowOf(f, c);
                    add(row == GONE ? NO_BYTE : row);
                }
            }
            int check = CHECK_FROM;
            for (int k = 0; k < length && k < MOST_BYTES; k++) {
                check = (3 * check + (bytes[k] & 255)) % 251;
            }
            add(check);
        }

        private void add(int value) {
            if (length < MOST_BYTES) {
                bytes[length] = (byte) value;
                length++;
            }
        }

        /** Whether the tape is AN IMAGE of the slope; then into is as it tells, else into is of no use. */
        boolean read(Tape tape, Slope slope, Lay into) {
            int posts = tape.byteAt(2);
            int fencesFrom = 3 + 2 * posts;
            int checkAt = fencesFrom + slope.fences * (2 + slope.columns);
            if (posts < 0 || posts > POSTS || tape.length != checkAt + 1) {
                return false;
            }
            int check = CHECK_FROM;
            for (int k = 0; k < checkAt; k++) {
                check = (3 * check + tape.byteAt(k)) % 251;
            }
            into.clear();
            into.year = tape.byteAt(0) * 256 + tape.byteAt(1);
            return check == tape.byteAt(checkAt) && into.year <= LAST_YEAR
                    && readPosts(tape, slope, into, posts) && readFences(tape, slope, into, fencesFrom);
        }

        private static boolean readPosts(Tape tape, Slope slope, Lay into, int posts) {
            int latest = NONE;
            for (int k = 0; k < posts; k++) {
                int column = tape.byteAt(3 + 2 * k);
                int row = tape.byteAt(4 + 2 * k);
                int order = column * ROWS + row;
                if (!slope.hasPlace(column, row) || order <= latest) {
                    return false;
                }
                into.drive(column, row);
                latest = order;
            }
            return true;
        }

        private static boolean readFences(Tape tape, Slope slope, Lay into, int from) {
            int at = from;
            for (int f = 0; f < slope.fences; f++) {
                int age = tape.byteAt(at);
                int cut = tape.byteAt(at + 1);
                if (age > OLDEST || cut > 1) {
                    return false;
                }
                into.putAge(f, age);
                into.cuts |= cut << f;
                at += 2;
                for (int c = 0; c < slope.columns; c++) {
                    int row = tape.byteAt(at);
                    if (row != NO_BYTE && row >= slope.rows) {
                        return false;
                    }
                    into.putStake(f, c, row == NO_BYTE ? GONE : row);
                    at++;
                }
            }
            return true;
        }
    }

    /** Does the steps of a SUM or TEST. */
    private static final class Reckoner {
        /** Far above what OPEN_AT_ONCE lets wait at one time. */
        static final int MOST_WAITING = 100;

        final int[] waiting = new int[MOST_WAITING];
        /** What each PART is, by the number of its word. */
        final int[] parts = new int[OWN_WORDS];
        /** For a question: the FENCE's row in each column; in how many columns it lies BELOW each FENCE. */
        final int[] rowIn = new int[COLUMNS];
        final int[] belowThat = new int[FENCES];

        int run(int[] steps, int from, int to) {
            int top = 0;
            for (int i = Math.max(0, from); i < to && i < steps.length; i++) {
                int step = steps[i];
                if (step >= SINGLES_FROM) {
                    if (top < 1) {
                        return 0;
                    }
                    waiting[top - 1] = single(step, waiting[top - 1]);
                } else if (step >= PAIRS_FROM) {
                    if (top < 2) {
                        return 0;
                    }
                    top--;
                    waiting[top - 1] = pair(step, waiting[top - 1], waiting[top]);
                } else {
                    if (top >= MOST_WAITING) {
                        return 0;
                    }
                    waiting[top] = step < PARTS_FROM ? step : partOf(step - PARTS_FROM);
                    top++;
                }
            }
            return top > 0 ? waiting[0] : 0;
        }

        private int partOf(int word) {
            return word >= 0 && word < OWN_WORDS ? parts[word] : 0;
        }

        private int single(int step, int a) {
            switch (step) {
                case HOLDS_NOT: return a == 0 ? 1 : 0;
                case ROW_IN: return a >= 0 && a < COLUMNS ? rowIn[a] : GONE;
                case BELOW_THAT: return a >= 0 && a < FENCES ? belowThat[a] : 0;
                default: return 0;
            }
        }

        private static int pair(int step, int a, int b) {
            long is;
            switch (step) {
                case ADD: is = (long) a + b; break;
                case SUBTRACT: is = (long) a - b; break;
                case TIMES: is = (long) a * b; break;
                case OVER: is = b == 0 ? 0 : Math.floorDiv(a, b); break;
                case IS_LESS: is = a < b ? 1 : 0; break;
                case IS_MORE: is = a > b ? 1 : 0; break;
                case IS_LIKE: is = a == b ? 1 : 0; break;
                case LESSER: is = Math.min(a, b); break;
                case GREATER: is = Math.max(a, b); break;
                case BOTH_HOLD: is = a & b; break;
                case ONE_HOLDS: is = a | b; break;
                default: is = 0; break;
            }
            return is > LIMIT ? LIMIT : is < -LIMIT ? -LIMIT : (int) is;
        }
    }

    /** Lets YEARS pass by the rules of the slope. */
    private static final class Walker {
        final Reckoner reckoner = new Reckoner();
        Slope slope;

        Walker(Slope slope) {
            this.slope = slope;
        }

        /** Ahead of paces(): what is one for all stakes of a FENCE. */
        void face(Lay lay, int fence) {
            reckoner.parts[AGE] = lay.ageOf(fence);
            reckoner.parts[YEAR] = lay.year;
        }

        /** How many rows a stake in that row would walk, were nothing in its way. */
        int paces(int column, int row) {
            int sum = slope.steepOf(column);
            if (slope.walksTo > slope.walksFrom) {
                reckoner.parts[STEEP] = sum;
                reckoner.parts[ROW] = row;
                sum = reckoner.run(slope.steps, slope.walksFrom, slope.walksTo);
            }
            return Math.max(0, Math.min(FARTHEST, sum));
        }

        /** One YEAR, noted in a log if there is one: how many stakes went beyond the last row. */
        int passYear(Lay lay, Log log) {
            int went = 0;
            for (int f = 0; f < slope.fences; f++) {
                if (!lay.isCut(f)) {
                    went += walkFence(lay, f, log);
                }
            }
            lay.cuts = 0;
            for (int f = 0; f < slope.fences; f++) {
                lay.putAge(f, Math.min(OLDEST, lay.ageOf(f) + 1));
                if (rootsAgain(lay, f)) {
                    lay.plant(f, slope.columns);
                    if (log != null) {
                        log.note(lay.year, f, NO_BYTE);
                    }
                }
            }
            lay.year = Math.min(LAST_YEAR, lay.year + 1);
            return went;
        }

        private int walkFence(Lay lay, int fence, Log log) {
            int went = 0;
            face(lay, fence);
            for (int c = 0; c < slope.columns; c++) {
                int row = lay.rowOf(fence, c);
                if (row == GONE) {
                    continue;
                }
                int to = landing(lay.postsOf(c), row, paces(c, row));
                lay.putStake(fence, c, to);
                if (to == GONE) {
                    went++;
                    if (log != null) {
                        log.note(lay.year, fence, c);
                    }
                }
            }
            return went;
        }

        private int landing(int posts, int row, int paces) {
            // From the stake's own row on, so that a POST there holds it.
            int ahead = posts >> row;
            int to = row + (ahead == 0 ? paces : Math.min(paces, Integer.numberOfTrailingZeros(ahead)));
            return to < slope.rows ? to : GONE;
        }

        private boolean rootsAgain(Lay lay, int fence) {
            if (slope.rootsTo <= slope.rootsFrom) {
                return false;
            }
            face(lay, fence);
            reckoner.parts[STEEP] = slope.steepOf(0);
            reckoner.parts[LEFT] = lay.leftOf(fence);
            return reckoner.run(slope.steps, slope.rootsFrom, slope.rootsTo) != 0;
        }

        /** What the question, whose steps are in asked, is for one FENCE. */
        int reckonQuestion(Slope asked, Lay lay, int fence) {
            face(lay, fence);
            reckoner.parts[NUMBER] = fence;
            reckoner.parts[LEFT] = lay.leftOf(fence);
            reckoner.parts[FIELD] = lay.fieldOf(fence, slope.rows);
            reckoner.parts[CUT] = lay.isCut(fence) ? 1 : 0;
            for (int c = 0; c < COLUMNS; c++) {
                reckoner.rowIn[c] = lay.rowOf(fence, c);
            }
            for (int f = 0; f < FENCES; f++) {
                reckoner.belowThat[f] = lay.columnsBelow(fence, f);
            }
            return reckoner.run(asked.steps, asked.walksFrom, asked.walksTo);
        }
    }

    /** What comes AHEAD, tried on lays of its own. */
    private static final class Foresight {
        /** Whose a place can be: a FENCE's, or the MOOR. */
        static final int OWNERS = FENCES + 1;

        final Lay now;
        final Walker walker;
        final Lay lay = new Lay();
        final Lay uncut = new Lay();
        final Lay cut = new Lay();
        /** For each column a bit for each row that a stake may come to. */
        final int[] trodden = new int[COLUMNS];
        final int[] fits = new int[COLUMNS * ROWS * OWNERS];
        int ironFence = NONE;
        int ironYears;
        int ironColumn;
        int ironRow;
        int ironField;
        int fitting;
        int firstFit;
        int lastFit;
        int tellingColumn;
        int tellingRow;
        int mostLeft;

        Foresight(Lay now, Walker walker) {
            this.now = now;
            this.walker = walker;
        }

        /** What was found for the lay of now does not hold any more. */
        void forget() {
            ironFence = NONE;
        }

        Lay goAhead(int n) {
            lay.takeFrom(now);
            passYears(lay, n);
            return lay;
        }

        private void passYears(Lay trial, int n) {
            for (int i = 0; i < n; i++) {
                walker.passYear(trial, null);
            }
        }

        int firstMeeting(int one, int other, int most) {
            lay.takeFrom(now);
            for (int n = 0; n <= most; n++) {
                if (lay.meetSomewhere(one, other)) {
                    return n;
                }
                walker.passYear(lay, null);
            }
            return NONE;
        }

        /** The least FIELD behind 1 .. n YEARS, when it is SET behind so many of them (NONE: not at all). */
        int leastField(int fence, int n, int when) {
            int least = COLUMNS * ROWS;
            lay.takeFrom(now);
            for (int k = 0; k < n; k++) {
                if (k == when) {
                    lay.plant(fence, walker.slope.columns);
                }
                walker.passYear(lay, null);
                least = Math.min(least, lay.fieldOf(fence, walker.slope.rows));
            }
            return least;
        }

        void findIron(int fence, int n) {
            // Column, row and FIELD are asked for one by one, and to find them is dear.
            if (fence == ironFence && n == ironYears) {
                return;
            }
            ironFence = fence;
            ironYears = n;
            ironColumn = NONE;
            ironRow = NONE;
            tread(n);
            ironField = lay.fieldOf(fence, walker.slope.rows);
            for (int c = 0; c < walker.slope.columns && c < COLUMNS; c++) {
                // Where no stake comes, a POST changes nothing.
                int worth = trodden[c] & ~now.postsOf(c);
                for (int r = 0; r < walker.slope.rows; r++) {
                    if ((worth >> r & 1) != 0) {
                        tryIron(c, r);
                    }
                }
            }
        }

        /** Goes n YEARS AHEAD, noting in trodden where stakes stand, or could come by their walk. */
        private void tread(int n) {
            Arrays.fill(trodden, 0);
            lay.takeFrom(now);
            for (int i = 0; i < n; i++) {
                for (int f = 0; f < walker.slope.fences; f++) {
                    treadBy(f);
                }
                walker.passYear(lay, null);
            }
        }

        private void treadBy(int fence) {
            walker.face(lay, fence);
            for (int c = 0; c < walker.slope.columns && c < COLUMNS; c++) {
                int row = lay.rowOf(fence, c);
                if (row != GONE) {
                    int reach = (2 << walker.paces(c, row)) - 1;
                    trodden[c] |= reach << row;
                }
            }
        }

        private void tryIron(int column, int row) {
            lay.takeFrom(now);
            lay.drive(column, row);
            for (int i = 0; i < ironYears; i++) {
                walker.passYear(lay, null);
            }
            int field = lay.fieldOf(ironFence, walker.slope.rows);
            if (field > ironField) {
                ironField = field;
                ironColumn = column;
                ironRow = row;
            }
        }

        int findRest(int n) {
            // No FENCE walks by what another one does, so two runs have the stakes of every set.
            int sets = 1 << walker.slope.fences;
            lay.takeFrom(now);
            uncut.takeFrom(now);
            uncut.cuts = 0;
            passYears(uncut, n);
            cut.takeFrom(now);
            cut.cuts = sets - 1;
            passYears(cut, n);
            int best = NONE;
            for (int set = 0; set < sets; set++) {
                boolean fewer = best == NONE || Integer.bitCount(set) < Integer.bitCount(best);
                if (fewer && isAtRest(set)) {
                    best = set;
                }
            }
            return best;
        }

        private boolean isAtRest(int set) {
            for (int f = 0; f < walker.slope.fences; f++) {
                lay.takeStakes((set >> f & 1) != 0 ? cut : uncut, f);
            }
            for (int f = 0; f < walker.slope.fences; f++) {
                boolean isCut = (set >> f & 1) != 0;
                int field = lay.fieldOf(f, walker.slope.rows);
                lay.takeStakes(isCut ? uncut : cut, f);
                int otherwise = lay.fieldOf(f, walker.slope.rows);
                lay.takeStakes(isCut ? cut : uncut, f);
                if (otherwise > field) {
                    return false;
                }
            }
            return true;
        }

        /** The YEARS AHEAD that fit what is SEEN; for each place whose it is in how many of them. */
        void findFits(Seen seen, int most) {
            fitting = 0;
            firstFit = NONE;
            lastFit = NONE;
            Arrays.fill(fits, 0);
            lay.takeFrom(now);
            for (int n = 0; n <= most; n++) {
                if (seen.isSo(lay)) {
                    firstFit = fitting == 0 ? n : firstFit;
                    lastFit = n;
                    fitting++;
                    countOwners();
                }
                walker.passYear(lay, null);
            }
        }

        private void countOwners() {
            for (int c = 0; c < walker.slope.columns; c++) {
                for (int r = 0; r < walker.slope.rows; r++) {
                    int k = (c * ROWS + r) * OWNERS + lay.ownerOf(c, r) + 1;
                    if (k >= 0 && k < fits.length) {
                        fits[k]++;
                    }
                }
            }
        }

        void findTelling(Seen seen, int most) {
            findFits(seen, most);
            tellingColumn = NONE;
            tellingRow = NONE;
            mostLeft = fitting + 1;
            for (int c = 0; c < walker.slope.columns && fitting > 0; c++) {
                for (int r = 0; r < walker.slope.rows; r++) {
                    int left = leftBy(c, r);
                    if (left < mostLeft) {
                        mostLeft = left;
                        tellingColumn = c;
                        tellingRow = r;
                    }
                }
            }
        }

        private int leftBy(int column, int row) {
            int left = 0;
            for (int owner = 0; owner < OWNERS; owner++) {
                int k = (column * ROWS + row) * OWNERS + owner;
                left = k >= 0 && k < fits.length ? Math.max(left, fits[k]) : left;
            }
            return left;
        }
    }

    /** Reads a SLOPE or a QUESTION from the tape, up to its first FAULT. */
    private static final class Reader {
        /** Kinds of what stands next; any other byte is a kind by itself. */
        static final int WORD = 256;
        static final int DIGITS_RUN = 257;
        static final int END = 258;
        /** A word or number that touches the one ahead of it: no text goes on so. */
        static final int STRAY = 259;

        final Tape tape;
        int fault;
        int faultAt = NONE;
        int question;
        private Slope told;
        private int size;
        private int kind;
        private int start;
        private int end;
        private int word;
        private int value;
        private int parts;
        private int askers;

        Reader(Tape tape, Slope draft) {
            this.tape = tape;
            this.told = draft;
        }

        boolean readSlope(Slope draft) {
            begin(draft);
            draft.clear();
            if (!slopeLine()) {
                return false;
            }
            draft.statements = 1;
            for (int count = 1; count < STATEMENTS && kind != END; count++) {
                boolean right;
                switch (kind == WORD ? word : NONE) {
                    case STEEP: right = steepLine(); break;
                    case IRON: right = ironLine(); break;
                    case FENCE: right = fenceLine(); break;
                    case STAKE: right = stakeLine(); break;
                    case WALKS: right = walksLine(); break;
                    case ROOTS: right = rootsLine(); break;
                    case TIDE: right = tideLine(); break;
                    default: right = wrong(1, start); break;
                }
                if (!right || !need(';')) {
                    return false;
                }
                draft.statements++;
            }
            return kind == END || wrong(5, start);
        }

        /** The steps of the question come into the draft, which no slope uses meanwhile. */
        boolean readQuestion(Slope draft) {
            begin(draft);
            draft.clear();
            parts = QUESTION_PARTS;
            askers = QUESTION_ASKERS;
            question = kind == WORD ? word : NONE;
            boolean right;
            switch (question) {
                case FIRST:
                case LAST:
                case OFTEN:
                    advance();
                    right = test(0);
                    break;
                case TOTAL:
                case MOST:
                case LEAST:
                    advance();
                    right = sum(0);
                    break;
                default:
                    right = wrong(1, start);
                    break;
            }
            draft.walksTo = size;
            return right && (kind == END || wrong(1, start));
        }

        private void begin(Slope draft) {
            told = draft;
            size = 0;
            fault = 0;
            faultAt = NONE;
            end = 0;
            kind = END;
            advance();
        }

        private boolean wrong(int what, int at) {
            fault = what;
            faultAt = at;
            return false;
        }

        private void advance() {
            boolean solid = kind == WORD || kind == DIGITS_RUN;
            int from = end;
            start = end;
            while (start < tape.length && isBlank(tape.byteAt(start))) {
                start++;
            }
            int first = tape.byteAt(start);
            end = start;
            if (first == NONE) {
                kind = END;
            } else if (isLetter(first)) {
                while (end < tape.length && isLetter(tape.byteAt(end))) {
                    end++;
                }
                word = wordNumber();
                kind = WORD;
            } else if (isDigit(first)) {
                while (end < tape.length && isDigit(tape.byteAt(end))) {
                    end++;
                }
                kind = DIGITS_RUN;
            } else {
                kind = first;
                end++;
            }
            if (solid && start == from && (kind == WORD || kind == DIGITS_RUN)) {
                kind = STRAY;
            }
        }

        private static boolean isBlank(int sign) {
            return sign == 10 || sign == 32;
        }

        private static boolean isLetter(int sign) {
            return sign >= 'a' && sign <= 'z';
        }

        private static boolean isDigit(int sign) {
            return sign >= '0' && sign <= '9';
        }

        /** The number in WORDS of what stands next; NONE if it is no such word. */
        private int wordNumber() {
            int number = 0;
            int at = start;
            for (int k = 0; k < WORDS.length(); k++) {
                char sign = WORDS.charAt(k);
                if (sign == ' ') {
                    if (at == end) {
                        return number;
                    }
                    number++;
                    at = start;
                } else {
                    at = at >= 0 && at < end && tape.bytes[at] == sign ? at + 1 : NONE;
                }
            }
            return NONE;
        }

        private boolean isWord(int which) {
            return kind == WORD && word == which;
        }

        private boolean need(int sign) {
            if (kind != sign) {
                return wrong(1, start);
            }
            advance();
            return true;
        }

        private boolean needWord(int which) {
            if (!isWord(which)) {
                return wrong(1, start);
            }
            advance();
            return true;
        }

        private boolean number(int least, int most) {
            if (kind != DIGITS_RUN) {
                return wrong(1, start);
            }
            if (end - start > DIGITS) {
                return wrong(1, start + DIGITS);
            }
            value = 0;
            for (int k = start; k < end; k++) {
                value = value * 10 + tape.byteAt(k) - '0';
            }
            if (value < least || value > most) {
                return wrong(2, start);
            }
            advance();
            return true;
        }

        /** A NAME stands next, whether it is a FENCE's or not. */
        private boolean name() {
            if (kind != WORD || word >= 0 && word < OWN_WORDS) {
                return wrong(1, start);
            }
            return end - start <= LETTERS || wrong(1, start + LETTERS);
        }

        private int letterAt(int k) {
            return start + k < end ? tape.byteAt(start + k) - 'a' + 1 : 0;
        }

        /** The FENCE whose NAME stands next; NONE if it is none's. */
        private int named() {
            for (int f = 0; f < told.fences && f < FENCES; f++) {
                boolean same = true;
                for (int k = 0; k < LETTERS; k++) {
                    same = same && told.names[f * LETTERS + k] == letterAt(k);
                }
                if (same) {
                    return f;
                }
            }
            return NONE;
        }

        private boolean slopeLine() {
            if (!needWord(SLOPE) || !number(1, COLUMNS)) {
                return false;
            }
            int columns = value;
            if (!needWord(BY) || !number(LEAST_ROWS, ROWS)) {
                return false;
            }
            told.columns = columns;
            told.rows = value;
            return need(';');
        }

        private boolean steepLine() {
            advance();
            if (!number(0, told.columns - 1)) {
                return false;
            }
            int column = value;
            if (!number(0, STEEPEST)) {
                return false;
            }
            if (column >= 0 && column < COLUMNS) {
                told.steep[column] = value;
            }
            return true;
        }

        private boolean ironLine() {
            if (told.start.countPosts() >= TOLD_POSTS) {
                return wrong(5, start);
            }
            advance();
            if (!number(0, told.columns - 1)) {
                return false;
            }
            int column = value;
            int rowAt = start;
            if (!number(0, told.rows - 1)) {
                return false;
            }
            if (told.start.hasPost(column, value)) {
                return wrong(2, rowAt);
            }
            told.start.drive(column, value);
            return true;
        }

        private boolean fenceLine() {
            int fence = told.fences;
            if (fence < 0 || fence >= FENCES) {
                return wrong(5, start);
            }
            advance();
            if (!name()) {
                return false;
            }
            if (named() != NONE) {
                return wrong(3, start);
            }
            for (int k = 0; k < LETTERS; k++) {
                told.names[fence * LETTERS + k] = letterAt(k);
            }
            advance();
            if (!needWord(ROW) || !number(0, told.rows - 1)) {
                return false;
            }
            for (int c = 0; c < told.columns; c++) {
                told.start.putStake(fence, c, value);
            }
            if (!needWord(AGE) || !number(0, OLDEST)) {
                return false;
            }
            told.start.putAge(fence, value);
            told.fences++;
            return true;
        }

        private boolean stakeLine() {
            advance();
            if (!name()) {
                return false;
            }
            int fence = named();
            if (fence == NONE) {
                return wrong(3, start);
            }
            advance();
            if (!number(0, told.columns - 1)) {
                return false;
            }
            int column = value;
            if (!needWord(ROW) || !number(0, told.rows - 1)) {
                return false;
            }
            told.start.putStake(fence, column, value);
            return true;
        }

        private boolean walksLine() {
            if (told.walksTo > told.walksFrom) {
                return wrong(5, start);
            }
            advance();
            parts = WALKS_PARTS;
            askers = NO_WORDS;
            told.walksFrom = size;
            boolean right = sum(0);
            told.walksTo = size;
            return right;
        }

        private boolean rootsLine() {
            if (told.rootsTo > told.rootsFrom) {
                return wrong(5, start);
            }
            advance();
            parts = ROOTS_PARTS;
            askers = NO_WORDS;
            told.rootsFrom = size;
            boolean right = test(0);
            told.rootsTo = size;
            return right;
        }

        private boolean tideLine() {
            advance();
            if (!number(0, 100)) {
                return false;
            }
            told.tide = value;
            return true;
        }

        private boolean emit(int step) {
            if (size < told.steps.length) {
                told.steps[size] = step;
                size++;
            }
            return true;
        }

        /** What stands next opens one level more, if it may. */
        private boolean opens(int open) {
            if (open >= OPEN_AT_ONCE) {
                return wrong(4, start);
            }
            advance();
            return true;
        }

        private boolean test(int open) {
            if (!both(open)) {
                return false;
            }
            for (int count = 0; count < TAPE_BYTES && isWord(OR); count++) {
                advance();
                if (!both(open)) {
                    return false;
                }
                emit(ONE_HOLDS);
            }
            return true;
        }

        private boolean both(int open) {
            if (!fact(open)) {
                return false;
            }
            for (int count = 0; count < TAPE_BYTES && isWord(AND); count++) {
                advance();
                if (!fact(open)) {
                    return false;
                }
                emit(BOTH_HOLD);
            }
            return true;
        }

        private boolean fact(int open) {
            if (isWord(NOT)) {
                return opens(open) && fact(open + 1) && emit(HOLDS_NOT);
            }
            if (kind == '[') {
                return opens(open) && test(open + 1) && need(']');
            }
            if (isWord(ALL)) {
                advance();
                return emit(1);
            }
            if (!sum(open)) {
                return false;
            }
            int sign = kind;
            if (sign != '<' && sign != '>' && sign != '=') {
                return wrong(1, start);
            }
            advance();
            return sum(open) && emit(sign == '<' ? IS_LESS : sign == '>' ? IS_MORE : IS_LIKE);
        }

        private boolean sum(int open) {
            if (!product(open)) {
                return false;
            }
            for (int count = 0; count < TAPE_BYTES && (kind == '+' || kind == '-'); count++) {
                int step = kind == '+' ? ADD : SUBTRACT;
                advance();
                if (!product(open)) {
                    return false;
                }
                emit(step);
            }
            return true;
        }

        private boolean product(int open) {
            if (!part(open)) {
                return false;
            }
            for (int count = 0; count < TAPE_BYTES && (kind == '*' || kind == '/'); count++) {
                int step = kind == '*' ? TIMES : OVER;
                advance();
                if (!part(open)) {
                    return false;
                }
                emit(step);
            }
            return true;
        }

        private boolean part(int open) {
            if (kind == DIGITS_RUN) {
                return number(0, PARTS_FROM - 1) && emit(value);
            }
            if (kind == '(') {
                return opens(open) && sum(open + 1) && need(')');
            }
            if (kind != WORD || word < 0 || word >= OWN_WORDS) {
                return wrong(1, start);
            }
            int which = word;
            if (which == MIN || which == MAX) {
                advance();
                return (kind == '(' || wrong(1, start)) && opens(open) && sum(open + 1) && need(',')
                        && sum(open + 1) && need(')') && emit(which == MIN ? LESSER : GREATER);
            }
            if ((askers >> which & 1) != 0) {
                return opens(open) && part(open + 1) && emit(which == ROW ? ROW_IN : BELOW_THAT);
            }
            if ((parts >> which & 1) == 0) {
                return wrong(1, start);
            }
            advance();
            return emit(PARTS_FROM + which);
        }
    }
}
