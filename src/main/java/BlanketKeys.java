import java.util.Arrays;

/**
 * One keyboard under a blanket on which two typists type at once, as ../shared/DOC.md promises it.
 */
public final class BlanketKeys {
    public static final int UNKNOWN = -1;
    public static final int BAD_VALUE = -2;
    public static final int FULL = -3;
    public static final int NOT_POSSIBLE = -4;
    public static final int NONE = -5;

    private static final int NO_ERROR = 0;
    /** Inside, a typist, a key or a tick that is not there; the face tells NONE in its place. */
    private static final int ABSENT = -1;
    private static final int GHOST = 2;
    private static final int DISPUTE = 3;
    private static final char NO_SIGN = '.';
    private static final int CAPITAL_STEP = 'a' - 'A';

    private static final int LEAST_LINES = 2;
    private static final int MOST_ROWS = 6;
    private static final int MOST_COLUMNS = 8;
    private static final int MOST_KEYS = MOST_ROWS * MOST_COLUMNS;
    private static final int MOST_HELD = 5;
    private static final int MOST_TICKS = 99;
    private static final int MOST_DWELL = 9999;
    private static final int MOST_DISPUTES = 20;
    private static final int MOST_STATES = 4;
    private static final int MOST_CHARACTERS = 60;
    private static final int KNOWN_STROKES = 16;
    private static final int KNOWN_SIGNS = 24;
    private static final int FAULT_BASE = -100;
    private static final int GHOSTS_BASE = 100;

    private final State now = new State();
    private final State beforeScript = new State();
    private final State snapshot = new State();
    private final History history = new History();
    private final Script script = new Script();
    private boolean hasSnapshot;

    public BlanketKeys() {
        hasSnapshot = false;
    }

    // ---- the keyboard

    public int build(int rows, int columns) {
        if (rows < LEAST_LINES || rows > MOST_ROWS || columns < LEAST_LINES || columns > MOST_COLUMNS) {
            return BAD_VALUE;
        }
        Board board = now.board;
        if (board.downKeys() > 0 || board.seenKeys() > 0) {
            return NOT_POSSIBLE;
        }
        if (board.rows == rows && board.columns == columns) {
            return NONE;
        }
        history.remember(now);
        board.rebuild(rows, columns);
        return board.size();
    }

    public int setSign(int key, char sign) {
        Board board = now.board;
        if (!board.has(key)) {
            return UNKNOWN;
        }
        if (sign != NO_SIGN && (sign < 'a' || sign > 'z')) {
            return BAD_VALUE;
        }
        int former = board.signOf(key);
        if (former == sign && board.shiftOwner(key) == ABSENT) {
            return NONE;
        }
        history.remember(now);
        board.giveSign(key, sign);
        return former;
    }

    public int setShift(int typist, int key) {
        Board board = now.board;
        if (!State.isTypist(typist) || !board.has(key)) {
            return UNKNOWN;
        }
        int owner = board.shiftOwner(key);
        if (owner == typist) {
            return NONE;
        }
        if (owner != ABSENT) {
            return NOT_POSSIBLE;
        }
        history.remember(now);
        int former = board.shiftOf(typist);
        board.giveShift(typist, key);
        return former == ABSENT ? key : former;
    }

    public int borrow(int typist, boolean is) {
        if (!State.isTypist(typist)) {
            return UNKNOWN;
        }
        if (now.typistOf(typist).borrows == is) {
            return NONE;
        }
        history.remember(now);
        now.typistOf(typist).borrows = is;
        return (now.first.borrows ? 1 : 0) + (now.second.borrows ? 1 : 0);
    }

    public int set(int what, int bits) {
        if (!Settings.accepts(what, bits)) {
            return BAD_VALUE;
        }
        int former = now.settings.bitsOf(what);
        if (former == bits) {
            return NONE;
        }
        history.remember(now);
        now.settings.change(what, bits);
        return former;
    }

    // ---- hands and ticks

    public int press(int typist, int key) {
        int error = now.pressError(typist, key);
        if (error != NO_ERROR) {
            return error;
        }
        history.remember(now);
        now.board.putDown(typist, key);
        return now.board.heldBy(typist);
    }

    public int release(int typist, int key) {
        int error = now.releaseError(typist, key);
        if (error != NO_ERROR) {
            return error;
        }
        history.remember(now);
        now.board.liftUp(key);
        return now.board.heldBy(typist);
    }

    public int tick(int ticks) {
        if (ticks < 1 || ticks > MOST_TICKS) {
            return BAD_VALUE;
        }
        history.remember(now);
        return now.pass(ticks);
    }

    public int settle(int dispute, int who) {
        if (!now.hasDispute(dispute)) {
            return UNKNOWN;
        }
        if (who < 0 || who > GHOST) {
            return BAD_VALUE;
        }
        if (now.disputes.fateOf(dispute) != DISPUTE) {
            return NOT_POSSIBLE;
        }
        history.remember(now);
        now.settleByHand(dispute, who);
        return now.disputes.keyOf(dispute);
    }

    // ---- texts

    public int type(char character) {
        return script.append(character) ? script.length : FULL;
    }

    public int clearText() {
        int former = script.length;
        script.length = 0;
        return former;
    }

    public int perform() {
        int fault = script.fault();
        if (fault != Script.NO_FAULT) {
            return FAULT_BASE - fault;
        }
        beforeScript.copyFrom(now);
        int ended = 0;
        int from = 0;
        for (int at = 0; at <= script.length; at++) {
            if (script.isMoveEnd(at)) {
                int answer = move(from, at);
                if (answer < 0) {
                    now.copyFrom(beforeScript);
                    return answer;
                }
                ended += answer;
                from = at + 1;
            }
        }
        history.remember(beforeScript);
        return ended;
    }

    /** Does the move that stands from one place to before another; tells the strokes that end in it, or an error. */
    private int move(int from, int to) {
        char begin = script.characterAt(from);
        if (begin == 't') {
            return now.pass(script.number(from + 1, to));
        }
        int typist = begin - '0';
        int key = script.number(from + 2, to);
        boolean isPress = script.characterAt(from + 1) == 'd';
        int error = isPress ? now.pressError(typist, key) : now.releaseError(typist, key);
        if (error != NO_ERROR) {
            return error;
        }
        if (isPress) {
            now.board.putDown(typist, key);
        } else {
            now.board.liftUp(key);
        }
        return 0;
    }

    // ---- history

    public int undo() {
        if (history.depth == 0) {
            return NONE;
        }
        history.takeBack(now);
        return history.depth;
    }

    public int keep() {
        snapshot.copyFrom(now);
        hasSnapshot = true;
        return now.time;
    }

    public int restore() {
        if (!hasSnapshot) {
            return NONE;
        }
        history.remember(now);
        now.copyFrom(snapshot);
        return now.time;
    }

    // ---- what is told

    public int key(int key, int what) {
        Board board = now.board;
        if (!board.has(key)) {
            return UNKNOWN;
        }
        switch (what) {
            case 0: return orNone(board.holderOf(key));
            case 1: return board.isSeen(key) ? 1 : 0;
            case 2: return board.isSeen(key) ? board.sinceOf(key) : NONE;
            case 3: return board.isDoubtful(key) ? 1 : 0;
            case 4: return board.signOf(key);
            case 5: return orNone(board.shiftOwner(key));
            case 6: return (board.sensed(board.rowOf(key), ABSENT) & board.bitOf(key)) != 0 ? 1 : 0;
            default: return BAD_VALUE;
        }
    }

    public int typist(int typist, int what) {
        if (!State.isTypist(typist)) {
            return UNKNOWN;
        }
        Typist asked = now.typistOf(typist);
        switch (what) {
            case 0: return now.board.heldBy(typist);
            case 1: return orNone(now.board.shiftOf(typist));
            case 2: return now.board.isShiftOn(typist) ? 1 : 0;
            case 3: return asked.borrows ? 1 : 0;
            case 4: return asked.credited;
            case 5: return asked.creditedRightly;
            case 6: return asked.signCount;
            case 7: return orNone(asked.last);
            default: return BAD_VALUE;
        }
    }

    public float style(int typist, int what) {
        if (!State.isTypist(typist) || !isMean(what)) {
            return 0.0f / 0.0f;
        }
        return meanOf(typist, what);
    }

    public int hundredths(int typist, int what) {
        if (!State.isTypist(typist)) {
            return UNKNOWN;
        }
        if (!isMean(what)) {
            return BAD_VALUE;
        }
        return (int) (meanOf(typist, what) * 100.0f);
    }

    public int typed(int typist, int back) {
        if (!State.isTypist(typist)) {
            return UNKNOWN;
        }
        if (back < 0) {
            return BAD_VALUE;
        }
        Typist asked = now.typistOf(typist);
        if (back >= asked.signCount || back >= KNOWN_SIGNS) {
            return NONE;
        }
        return asked.signBack(back);
    }

    public int stroke(int back, int what) {
        if (back < 0 || what < 0 || what > 5) {
            return BAD_VALUE;
        }
        Strokes ended = now.ended;
        if (back >= ended.total || back >= KNOWN_STROKES) {
            return NONE;
        }
        int number = ended.total - 1 - back;
        switch (what) {
            case 0: return ended.keyOf(number);
            case 1: return ended.sinceOf(number);
            case 2: return ended.dwellOf(number);
            case 3: return ended.fateOf(number);
            case 4: return orNone(ended.holderOf(number));
            default: return ended.notedOf(number);
        }
    }

    public int dispute(int dispute, int what) {
        if (!now.hasDispute(dispute)) {
            return UNKNOWN;
        }
        Strokes disputes = now.disputes;
        switch (what) {
            case 0: return disputes.keyOf(dispute);
            case 1: return disputes.sinceOf(dispute);
            case 2: return disputes.dwellOf(dispute);
            case 3: return disputes.fateOf(dispute) == DISPUTE ? NONE : disputes.fateOf(dispute);
            case 4: return orNone(disputes.holderOf(dispute));
            default: return BAD_VALUE;
        }
    }

    public float distance(int typist, int since, int dwell) {
        if (!State.isTypist(typist) || since < 0 || dwell < 0 || dwell > MOST_DWELL) {
            return 0.0f / 0.0f;
        }
        return now.typistOf(typist).distanceOf(since, dwell);
    }

    public int verdict(int key) {
        if (!now.board.has(key)) {
            return UNKNOWN;
        }
        return now.board.isSeen(key) ? now.fateNow(key) : NONE;
    }

    public int ghostsBy(int key) {
        Board board = now.board;
        if (!board.has(key)) {
            return UNKNOWN;
        }
        return GHOSTS_BASE + board.ghostsBeside(key, ABSENT) - board.ghostsBeside(key, key);
    }

    public int count(int what) {
        Board board = now.board;
        switch (what) {
            case 0: return now.time;
            case 1: return board.rows;
            case 2: return board.columns;
            case 3: return board.downKeys();
            case 4: return board.seenKeys();
            case 5: return board.doubtfulKeys();
            case 6: return now.ended.total;
            case 7: return now.first.credited + now.second.credited;
            case 8: return now.ghosts;
            case 9: return now.openDisputes;
            case 10: return now.disputes.total;
            case 11: return now.first.creditedRightly + now.second.creditedRightly;
            case 12: return now.ghostsOfNobody;
            case 13: return now.drivenRow();
            case 14: return history.depth;
            case 15: return script.length;
            default: return BAD_VALUE;
        }
    }

    private static boolean isMean(int what) {
        return what == 0 || what == 1;
    }

    private float meanOf(int typist, int what) {
        Typist asked = now.typistOf(typist);
        return what == 0 ? asked.meanDwell : asked.meanGap;
    }

    private static int orNone(int value) {
        return value == ABSENT ? NONE : value;
    }

    /** Reads and writes a cell behind a look at its index, so that no index can make the machine throw. */
    private static final class Cells {
        static int at(int[] cells, int index) {
            return index >= 0 && index < cells.length ? cells[index] : 0;
        }

        static void put(int[] cells, int index, int value) {
            if (index >= 0 && index < cells.length) {
                cells[index] = value;
            }
        }

        static void copy(int[] from, int[] to) {
            System.arraycopy(from, 0, to, 0, Math.min(from.length, to.length));
        }

        static int bitsIn(int[] masks) {
            int bits = 0;
            for (int mask : masks) {
                bits += Integer.bitCount(mask);
            }
            return bits;
        }
    }

    /** The keys, and what is sensed of them; a set of columns of one row is held as the bits of a number. */
    private static final class Board {
        int rows = 4;
        int columns = 6;
        final int[] holders = new int[MOST_KEYS];
        final int[] signs = new int[MOST_KEYS];
        final int[] sinces = new int[MOST_KEYS];
        final int[] notedShifts = new int[MOST_KEYS];
        final int[] trueHolders = new int[MOST_KEYS];
        final int[] down = new int[MOST_ROWS];
        final int[] seen = new int[MOST_ROWS];
        final int[] doubtful = new int[MOST_ROWS];
        final int[] shifts = new int[2];

        Board() {
            Arrays.fill(holders, ABSENT);
            Arrays.fill(signs, NO_SIGN);
            Arrays.fill(trueHolders, ABSENT);
            Arrays.fill(shifts, ABSENT);
        }

        void copyFrom(Board other) {
            rows = other.rows;
            columns = other.columns;
            Cells.copy(other.holders, holders);
            Cells.copy(other.signs, signs);
            Cells.copy(other.sinces, sinces);
            Cells.copy(other.notedShifts, notedShifts);
            Cells.copy(other.trueHolders, trueHolders);
            Cells.copy(other.down, down);
            Cells.copy(other.seen, seen);
            Cells.copy(other.doubtful, doubtful);
            Cells.copy(other.shifts, shifts);
        }

        void rebuild(int newRows, int newColumns) {
            rows = newRows;
            columns = newColumns;
            Arrays.fill(signs, NO_SIGN);
            Arrays.fill(shifts, ABSENT);
        }

        int size() {
            return rows * columns;
        }

        boolean has(int key) {
            return key >= 0 && key < rows * columns;
        }

        int rowOf(int key) {
            return columns > 0 ? key / columns : 0;
        }

        int bitOf(int key) {
            return columns > 0 ? 1 << key % columns : 0;
        }

        boolean isDown(int key) {
            return (Cells.at(down, rowOf(key)) & bitOf(key)) != 0;
        }

        boolean isSeen(int key) {
            return (Cells.at(seen, rowOf(key)) & bitOf(key)) != 0;
        }

        boolean isDoubtful(int key) {
            return (Cells.at(doubtful, rowOf(key)) & bitOf(key)) != 0;
        }

        int downKeys() {
            return Cells.bitsIn(down);
        }

        int seenKeys() {
            return Cells.bitsIn(seen);
        }

        int doubtfulKeys() {
            return Cells.bitsIn(doubtful);
        }

        int holderOf(int key) {
            return Cells.at(holders, key);
        }

        int heldBy(int typist) {
            int held = 0;
            for (int holder : holders) {
                held += holder == typist ? 1 : 0;
            }
            return held;
        }

        void putDown(int typist, int key) {
            int row = rowOf(key);
            Cells.put(holders, key, typist);
            Cells.put(down, row, Cells.at(down, row) | bitOf(key));
        }

        void liftUp(int key) {
            int row = rowOf(key);
            Cells.put(holders, key, ABSENT);
            Cells.put(down, row, Cells.at(down, row) & ~bitOf(key));
        }

        int signOf(int key) {
            return has(key) ? Cells.at(signs, key) : NO_SIGN;
        }

        void giveSign(int key, char sign) {
            int owner = shiftOwner(key);
            if (owner != ABSENT) {
                Cells.put(shifts, owner, ABSENT);
            }
            Cells.put(signs, key, sign);
        }

        int shiftOf(int typist) {
            return Cells.at(shifts, typist);
        }

        /** The typist whose shift this key is. */
        int shiftOwner(int key) {
            if (Cells.at(shifts, 0) == key) {
                return 0;
            }
            return Cells.at(shifts, 1) == key ? 1 : ABSENT;
        }

        void giveShift(int typist, int key) {
            Cells.put(shifts, typist, key);
            Cells.put(signs, key, NO_SIGN);
        }

        boolean isShiftOn(int typist) {
            int shift = shiftOf(typist);
            return shift != ABSENT && isSeen(shift) && !isDoubtful(shift);
        }

        /** The columns that keys of a row join to it, with one key (if there is any) the other way. */
        int joined(int row, int flipped) {
            int wires = Cells.at(down, row);
            return flipped != ABSENT && rowOf(flipped) == row ? wires ^ bitOf(flipped) : wires;
        }

        /** The columns that are sensed if a row is driven, with one key (if there is any) the other way. */
        int sensed(int row, int flipped) {
            int reached = joined(row, flipped);
            int before = 0;
            // each round that reaches more takes in one row more, so that there are no more rounds than rows
            for (int round = 0; round < rows && reached != before; round++) {
                before = reached;
                for (int other = 0; other < rows; other++) {
                    int wires = joined(other, flipped);
                    if ((wires & reached) != 0) {
                        reached |= wires;
                    }
                }
            }
            return reached;
        }

        /** How many keys beside this one are up and would be sensed. */
        int ghostsBeside(int key, int flipped) {
            int ghosts = 0;
            for (int row = 0; row < rows; row++) {
                int up = ~Cells.at(down, row);
                if (row == rowOf(key)) {
                    up &= ~bitOf(key);
                }
                ghosts += Integer.bitCount(sensed(row, flipped) & up);
            }
            return ghosts;
        }

        void see(int row, int fresh, int time) {
            Cells.put(seen, row, Cells.at(seen, row) | fresh);
            for (int column = 0; column < columns; column++) {
                if ((fresh >> column & 1) != 0) {
                    Cells.put(sinces, row * columns + column, time);
                    if (closesCorner(row, 1 << column)) {
                        Cells.put(doubtful, row, Cells.at(doubtful, row) | 1 << column);
                    }
                }
            }
            // a shift that is first seen in this tick counts for its neighbours too: all doubts come before all notes
            int shiftsOn = (isShiftOn(0) ? 1 : 0) + (isShiftOn(1) ? 2 : 0);
            for (int column = 0; column < columns; column++) {
                if ((fresh >> column & 1) != 0) {
                    int key = row * columns + column;
                    Cells.put(notedShifts, key, shiftsOn);
                    Cells.put(trueHolders, key, Cells.at(holders, key));
                }
            }
        }

        /** Whether three other keys that are seen lie with a seen key in two rows and two columns. */
        boolean closesCorner(int row, int bit) {
            int beside = Cells.at(seen, row) & ~bit;
            for (int other = 0; other < rows; other++) {
                int across = Cells.at(seen, other);
                if (other != row && (across & bit) != 0 && (across & beside) != 0) {
                    return true;
                }
            }
            return false;
        }

        void loseSight(int key) {
            int row = rowOf(key);
            Cells.put(seen, row, Cells.at(seen, row) & ~bitOf(key));
            Cells.put(doubtful, row, Cells.at(doubtful, row) & ~bitOf(key));
        }

        int sinceOf(int key) {
            return Cells.at(sinces, key);
        }

        int notedFor(int key) {
            return Cells.at(notedShifts, key);
        }

        int trueHolderOf(int key) {
            return Cells.at(trueHolders, key);
        }
    }

    /** What is known of one typist: the style, what was credited and what was typed. */
    private static final class Typist {
        float meanDwell;
        float meanGap;
        int last = ABSENT;
        boolean borrows;
        int credited;
        int creditedRightly;
        int signCount;
        final int[] signs = new int[KNOWN_SIGNS];

        Typist(float dwell, float gap) {
            meanDwell = dwell;
            meanGap = gap;
        }

        void copyFrom(Typist other) {
            meanDwell = other.meanDwell;
            meanGap = other.meanGap;
            last = other.last;
            borrows = other.borrows;
            credited = other.credited;
            creditedRightly = other.creditedRightly;
            signCount = other.signCount;
            Cells.copy(other.signs, signs);
        }

        float distanceOf(int since, int dwell) {
            float far = unsigned((float) dwell - meanDwell) / meanDwell;
            if (last == ABSENT) {
                return far;
            }
            return far + unsigned((float) Math.abs(since - last) - meanGap) / meanGap * 0.5f;
        }

        void learn(int since, int dwell, float rate) {
            meanDwell = atLeastHalf(meanDwell + ((float) dwell - meanDwell) * rate);
            if (last != ABSENT) {
                meanGap = atLeastHalf(meanGap + ((float) Math.abs(since - last) - meanGap) * rate);
            }
            last = since;
        }

        static float unsigned(float value) {
            return value < 0.0f ? -value : value;
        }

        static float atLeastHalf(float mean) {
            return mean < 0.5f ? 0.5f : mean;
        }

        void addSign(int sign) {
            Cells.put(signs, Math.floorMod(signCount, KNOWN_SIGNS), sign);
            signCount++;
        }

        int signBack(int back) {
            return Cells.at(signs, Math.floorMod(signCount - 1 - back, KNOWN_SIGNS));
        }
    }

    /** Rows of strokes, numbered from 0, of which the latest 20 are held: enough for every dispute there can be. */
    private static final class Strokes {
        static final int ROOM = MOST_DISPUTES;

        int total;
        final int[] keys = new int[ROOM];
        final int[] sinces = new int[ROOM];
        final int[] dwells = new int[ROOM];
        final int[] fates = new int[ROOM];
        final int[] holders = new int[ROOM];
        final int[] notedShifts = new int[ROOM];
        final int[] origins = new int[ROOM];

        void copyFrom(Strokes other) {
            total = other.total;
            Cells.copy(other.keys, keys);
            Cells.copy(other.sinces, sinces);
            Cells.copy(other.dwells, dwells);
            Cells.copy(other.fates, fates);
            Cells.copy(other.holders, holders);
            Cells.copy(other.notedShifts, notedShifts);
            Cells.copy(other.origins, origins);
        }

        static int slot(int number) {
            return number < 0 ? 0 : number % ROOM;
        }

        boolean holds(int number) {
            return number >= 0 && number < total && number >= total - ROOM;
        }

        /** Adds the stroke of a key that is seen and ends now. */
        void addFrom(Board board, int key, int time, int fate) {
            int slot = slot(total);
            Cells.put(keys, slot, key);
            Cells.put(sinces, slot, board.sinceOf(key));
            Cells.put(dwells, slot, time - board.sinceOf(key));
            Cells.put(fates, slot, fate);
            Cells.put(holders, slot, board.trueHolderOf(key));
            Cells.put(notedShifts, slot, board.notedFor(key));
            total++;
        }

        /** Adds the latest stroke of other rows; its number there is its origin, by which settling finds it again. */
        void addLatestOf(Strokes other) {
            int slot = slot(total);
            int latest = other.total - 1;
            Cells.put(keys, slot, other.keyOf(latest));
            Cells.put(sinces, slot, other.sinceOf(latest));
            Cells.put(dwells, slot, other.dwellOf(latest));
            Cells.put(fates, slot, other.fateOf(latest));
            Cells.put(holders, slot, other.holderOf(latest));
            Cells.put(notedShifts, slot, other.notedOf(latest));
            Cells.put(origins, slot, latest);
            total++;
        }

        int keyOf(int number) {
            return Cells.at(keys, slot(number));
        }

        int sinceOf(int number) {
            return Cells.at(sinces, slot(number));
        }

        int dwellOf(int number) {
            return Cells.at(dwells, slot(number));
        }

        int fateOf(int number) {
            return Cells.at(fates, slot(number));
        }

        int holderOf(int number) {
            return Cells.at(holders, slot(number));
        }

        int notedOf(int number) {
            return Cells.at(notedShifts, slot(number));
        }

        int originOf(int number) {
            return Cells.at(origins, slot(number));
        }

        void changeFate(int number, int fate) {
            if (holds(number)) {
                Cells.put(fates, slot(number), fate);
            }
        }
    }

    /** The margin, the trust and the rate, with their bits. */
    private static final class Settings {
        private static final int[] LEAST_TOO_MUCH = {0x40000001, 0x40800001, 0x3F800001};
        private static final int FRACTION_BITS = 23;
        private static final int FRACTION_END = 1 << FRACTION_BITS;
        private static final int HALVINGS_AT_ZERO = 150;

        final int[] bits = {0x3E000000, 0x3F000000, 0x3E800000};
        float margin = 0.125f;
        float trust = 0.5f;
        float rate = 0.25f;

        void copyFrom(Settings other) {
            Cells.copy(other.bits, bits);
            margin = other.margin;
            trust = other.trust;
            rate = other.rate;
        }

        /** Floats without a sign are ordered as their bits are; all others have bits below 0 or above the range. */
        static boolean accepts(int what, int newBits) {
            return what >= 0 && what < LEAST_TOO_MUCH.length && newBits >= 0 && newBits < LEAST_TOO_MUCH[what];
        }

        int bitsOf(int what) {
            return Cells.at(bits, what);
        }

        void change(int what, int newBits) {
            Cells.put(bits, what, newBits);
            float value = valueOf(newBits);
            switch (what) {
                case 0: margin = value; break;
                case 1: trust = value; break;
                default: rate = value; break;
            }
        }

        /** The library that is left cannot make a float of bits; halving is exact down to the least float. */
        private static float valueOf(int newBits) {
            int exponent = newBits >> FRACTION_BITS;
            int fraction = newBits & FRACTION_END - 1;
            float value = (float) (exponent == 0 ? fraction : fraction + FRACTION_END);
            int halvings = HALVINGS_AT_ZERO - (exponent == 0 ? 1 : exponent);
            for (int halving = 0; halving < halvings; halving++) {
                value = value * 0.5f;
            }
            return value;
        }
    }

    /** Everything but the text, the history and the snapshot. */
    private static final class State {
        final Board board = new Board();
        final Typist first = new Typist(4.0f, 6.0f);
        final Typist second = new Typist(8.0f, 10.0f);
        final Strokes ended = new Strokes();
        final Strokes disputes = new Strokes();
        final Settings settings = new Settings();
        int time;
        int ghosts;
        int ghostsOfNobody;
        int openDisputes;

        void copyFrom(State other) {
            board.copyFrom(other.board);
            first.copyFrom(other.first);
            second.copyFrom(other.second);
            ended.copyFrom(other.ended);
            disputes.copyFrom(other.disputes);
            settings.copyFrom(other.settings);
            time = other.time;
            ghosts = other.ghosts;
            ghostsOfNobody = other.ghostsOfNobody;
            openDisputes = other.openDisputes;
        }

        static boolean isTypist(int typist) {
            return typist == 0 || typist == 1;
        }

        Typist typistOf(int typist) {
            return typist == 0 ? first : second;
        }

        boolean hasDispute(int dispute) {
            return dispute >= 0 && dispute < disputes.total;
        }

        int pressError(int typist, int key) {
            if (!isTypist(typist) || !board.has(key)) {
                return UNKNOWN;
            }
            if (board.isDown(key)) {
                return NOT_POSSIBLE;
            }
            return board.heldBy(typist) >= MOST_HELD ? FULL : NO_ERROR;
        }

        int releaseError(int typist, int key) {
            if (!isTypist(typist) || !board.has(key)) {
                return UNKNOWN;
            }
            return board.holderOf(key) == typist ? NO_ERROR : NOT_POSSIBLE;
        }

        int drivenRow() {
            return board.rows > 0 ? Math.floorMod(time, board.rows) : 0;
        }

        /** Lets ticks pass; tells how many strokes end in them. */
        int pass(int ticks) {
            int before = ended.total;
            for (int passed = 0; passed < ticks; passed++) {
                int row = drivenRow();
                int seen = Cells.at(board.seen, row);
                int sensed = board.sensed(row, ABSENT);
                for (int column = 0; column < board.columns; column++) {
                    if ((seen & ~sensed & 1 << column) != 0) {
                        endStroke(row * board.columns + column);
                    }
                }
                if ((sensed & ~seen) != 0) {
                    board.see(row, sensed & ~seen, time);
                }
                time++;
            }
            return ended.total - before;
        }

        /** What becomes of the stroke of a key that is seen if it ends now. */
        int fateNow(int key) {
            boolean isDoubtful = board.isDoubtful(key);
            int owner = board.shiftOwner(key);
            if (owner != ABSENT) {
                return isDoubtful ? GHOST : owner;
            }
            int since = board.sinceOf(key);
            float fromFirst = first.distanceOf(since, time - since);
            float fromSecond = second.distanceOf(since, time - since);
            int nearest = fromSecond < fromFirst ? 1 : 0;
            if (isDoubtful) {
                float least = nearest == 0 ? fromFirst : fromSecond;
                return least <= settings.trust ? nearest : GHOST;
            }
            if (Typist.unsigned(fromFirst - fromSecond) < settings.margin) {
                return disputes.total < MOST_DISPUTES ? DISPUTE : GHOST;
            }
            return nearest;
        }

        void endStroke(int key) {
            int fate = fateNow(key);
            ended.addFrom(board, key, time, fate);
            board.loseSight(key);
            if (fate == DISPUTE) {
                disputes.addLatestOf(ended);
                openDisputes++;
            } else {
                finish(ended, ended.total - 1, fate, board.shiftOwner(key) == ABSENT);
            }
        }

        void settleByHand(int dispute, int who) {
            disputes.changeFate(dispute, who);
            ended.changeFate(disputes.originOf(dispute), who);
            openDisputes--;
            finish(disputes, dispute, who, true);
        }

        /** Credits a stroke to a typist, or makes it a ghost. */
        void finish(Strokes strokes, int number, int fate, boolean teaches) {
            int holder = strokes.holderOf(number);
            if (fate == GHOST) {
                ghosts++;
                ghostsOfNobody += holder == ABSENT ? 1 : 0;
                return;
            }
            Typist typist = typistOf(fate);
            typist.credited++;
            typist.creditedRightly += holder == fate ? 1 : 0;
            if (teaches) {
                typist.learn(strokes.sinceOf(number), strokes.dwellOf(number), settings.rate);
            }
            int sign = board.signOf(strokes.keyOf(number));
            if (sign != NO_SIGN) {
                int shifts = typist.borrows ? 3 : 1 << fate;
                boolean isCapital = (strokes.notedOf(number) & shifts) != 0;
                typist.addSign(isCapital ? sign - CAPITAL_STEP : sign);
            }
        }
    }

    /** The latest states; the places go round, so that nothing is made anew when one more is recorded. */
    private static final class History {
        int depth;
        State latest = new State();
        State second = new State();
        State third = new State();
        State oldest = new State();

        void remember(State state) {
            State reused = oldest;
            oldest = third;
            third = second;
            second = latest;
            latest = reused;
            latest.copyFrom(state);
            depth = Math.min(depth + 1, MOST_STATES);
        }

        void takeBack(State state) {
            State reused = latest;
            state.copyFrom(reused);
            latest = second;
            second = third;
            third = oldest;
            oldest = reused;
            depth--;
        }
    }

    /** The text, read as a script. */
    private static final class Script {
        static final int NO_FAULT = -1;

        private static final int NOT_ALLOWED = -1;
        private static final int MOVE_BEGINS = 0;
        private static final int AFTER_TYPIST = 1;
        private static final int KEY_BEGINS = 2;
        private static final int TICKS_BEGIN = 3;
        private static final int AFTER_DIGIT = 4;
        private static final int NUMBER_FULL = 5;

        int length;
        final char[] characters = new char[MOST_CHARACTERS];

        boolean append(char character) {
            if (length < 0 || length >= characters.length) {
                return false;
            }
            characters[length] = character;
            length++;
            return true;
        }

        char characterAt(int index) {
            return index >= 0 && index < length && index < characters.length ? characters[index] : 0;
        }

        int fault() {
            int place = MOVE_BEGINS;
            for (int index = 0; index < length; index++) {
                place = placeAfter(place, characterAt(index));
                if (place == NOT_ALLOWED) {
                    return index;
                }
            }
            return place == AFTER_DIGIT || place == NUMBER_FULL ? NO_FAULT : length;
        }

        private static int placeAfter(int place, char character) {
            switch (place) {
                case MOVE_BEGINS:
                    if (character == 't') {
                        return TICKS_BEGIN;
                    }
                    return character == '0' || character == '1' ? AFTER_TYPIST : NOT_ALLOWED;
                case AFTER_TYPIST:
                    return character == 'd' || character == 'u' ? KEY_BEGINS : NOT_ALLOWED;
                case KEY_BEGINS:
                    if (character == '0') {
                        return NUMBER_FULL;
                    }
                    return isDigit(character) ? AFTER_DIGIT : NOT_ALLOWED;
                case TICKS_BEGIN:
                    return isDigit(character) && character != '0' ? AFTER_DIGIT : NOT_ALLOWED;
                case AFTER_DIGIT:
                    if (isDigit(character)) {
                        return NUMBER_FULL;
                    }
                    return character == ';' ? MOVE_BEGINS : NOT_ALLOWED;
                default:
                    return character == ';' ? MOVE_BEGINS : NOT_ALLOWED;
            }
        }

        private static boolean isDigit(char character) {
            return character >= '0' && character <= '9';
        }

        boolean isMoveEnd(int index) {
            return index == length || characterAt(index) == ';';
        }

        int number(int from, int to) {
            int number = 0;
            for (int index = from; index < to; index++) {
                number = number * 10 + (characterAt(index) - '0');
            }
            return number;
        }
    }
}
