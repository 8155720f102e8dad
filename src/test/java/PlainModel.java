import java.util.ArrayDeque;
import java.util.ArrayList;
import java.util.Arrays;
import java.util.HashSet;
import java.util.List;
import java.util.Set;
import java.util.regex.Pattern;

/**
 * The document once more, written apart from the program and as naively as it can be said: lists that forget
 * nothing, a search over rows and columns, corners looked for among all keys.
 */
final class PlainModel implements Keys {
    static final int UNKNOWN = -1;
    static final int BAD_VALUE = -2;
    static final int FULL = -3;
    static final int NOT_POSSIBLE = -4;
    static final int NONE = -5;

    private static final String MOVE = "(?:[01][du](?:0|[1-9][0-9]?)|t[1-9][0-9]?)";
    private static final Pattern WHOLE = Pattern.compile(MOVE + "(?:;" + MOVE + ")*", Pattern.DOTALL);
    private static final Pattern BEGUN =
            Pattern.compile("(?:" + MOVE + ";)*(?:|[01]|[01][du]|t|" + MOVE + ")", Pattern.DOTALL);

    private static final class OneStroke {
        int key;
        int since;
        int dwell;
        int fate;
        int holder;
        boolean[] shifts;

        OneStroke copy() {
            OneStroke c = new OneStroke();
            c.key = key;
            c.since = since;
            c.dwell = dwell;
            c.fate = fate;
            c.holder = holder;
            c.shifts = shifts;
            return c;
        }
    }

    private static final class OneKey {
        int holder = NONE;
        boolean seen;
        boolean doubtful;
        int since;
        boolean[] shifts = {false, false};
        int trueHolder = NONE;
        char sign = '.';
        int shiftOf = NONE;

        OneKey copy() {
            OneKey c = new OneKey();
            c.holder = holder;
            c.seen = seen;
            c.doubtful = doubtful;
            c.since = since;
            c.shifts = shifts;
            c.trueHolder = trueHolder;
            c.sign = sign;
            c.shiftOf = shiftOf;
            return c;
        }
    }

    private static final class All {
        int rows = 4;
        int columns = 6;
        List<OneKey> keys = new ArrayList<>();
        int tick;
        float[] dwell = {4.0f, 8.0f};
        float[] gap = {6.0f, 10.0f};
        int[] last = {NONE, NONE};
        boolean[] borrows = {false, false};
        List<List<Integer>> typed = List.of(new ArrayList<>(), new ArrayList<>());
        List<OneStroke> strokes = new ArrayList<>();
        /** The places of the disputes among the strokes. */
        List<Integer> disputes = new ArrayList<>();
        int[] bits = {Float.floatToRawIntBits(0.125f), Float.floatToRawIntBits(0.5f), Float.floatToRawIntBits(0.25f)};

        All copy() {
            All c = new All();
            c.rows = rows;
            c.columns = columns;
            for (OneKey k : keys) {
                c.keys.add(k.copy());
            }
            c.tick = tick;
            c.dwell = dwell.clone();
            c.gap = gap.clone();
            c.last = last.clone();
            c.borrows = borrows.clone();
            c.typed = List.of(new ArrayList<>(typed.get(0)), new ArrayList<>(typed.get(1)));
            for (OneStroke s : strokes) {
                c.strokes.add(s.copy());
            }
            c.disputes = new ArrayList<>(disputes);
            c.bits = bits.clone();
            return c;
        }
    }

    private All a = new All();
    private final ArrayDeque<All> history = new ArrayDeque<>();
    private All snapshot;
    private String text = "";

    PlainModel() {
        makeKeys(4, 6);
    }

    private void makeKeys(int rows, int columns) {
        a.rows = rows;
        a.columns = columns;
        a.keys.clear();
        for (int i = 0; i < rows * columns; i++) {
            a.keys.add(new OneKey());
        }
    }

    private void record(All state) {
        history.push(state);
        if (history.size() > 4) {
            history.removeLast();
        }
    }

    private boolean isKey(int key) {
        return key >= 0 && key < a.keys.size();
    }

    private static boolean isTypist(int typist) {
        return typist == 0 || typist == 1;
    }

    public int build(int rows, int columns) {
        if (rows < 2 || rows > 6 || columns < 2 || columns > 8) {
            return BAD_VALUE;
        }
        for (OneKey k : a.keys) {
            if (k.holder != NONE || k.seen) {
                return NOT_POSSIBLE;
            }
        }
        if (rows == a.rows && columns == a.columns) {
            return NONE;
        }
        record(a.copy());
        makeKeys(rows, columns);
        return rows * columns;
    }

    public int setSign(int key, char sign) {
        if (!isKey(key)) {
            return UNKNOWN;
        }
        if ("abcdefghijklmnopqrstuvwxyz.".indexOf(sign) < 0) {
            return BAD_VALUE;
        }
        OneKey k = a.keys.get(key);
        if (k.sign == sign && k.shiftOf == NONE) {
            return NONE;
        }
        record(a.copy());
        int was = k.sign;
        k.sign = sign;
        k.shiftOf = NONE;
        return was;
    }

    private int shiftKey(int typist) {
        for (int i = 0; i < a.keys.size(); i++) {
            if (a.keys.get(i).shiftOf == typist) {
                return i;
            }
        }
        return NONE;
    }

    public int setShift(int typist, int key) {
        if (!isTypist(typist) || !isKey(key)) {
            return UNKNOWN;
        }
        OneKey k = a.keys.get(key);
        if (k.shiftOf == 1 - typist) {
            return NOT_POSSIBLE;
        }
        if (k.shiftOf == typist) {
            return NONE;
        }
        record(a.copy());
        int was = shiftKey(typist);
        if (was != NONE) {
            a.keys.get(was).shiftOf = NONE;
        }
        k.shiftOf = typist;
        k.sign = '.';
        return was == NONE ? key : was;
    }

    public int borrow(int typist, boolean is) {
        if (!isTypist(typist)) {
            return UNKNOWN;
        }
        if (a.borrows[typist] == is) {
            return NONE;
        }
        record(a.copy());
        a.borrows[typist] = is;
        return (a.borrows[0] ? 1 : 0) + (a.borrows[1] ? 1 : 0);
    }

    public int set(int what, int bits) {
        if (what < 0 || what > 2) {
            return BAD_VALUE;
        }
        float value = Float.intBitsToFloat(bits);
        float most = what == 0 ? 2.0f : what == 1 ? 4.0f : 1.0f;
        if (Float.isNaN(value) || !(value >= 0.0f && value <= most)
                || bits == Float.floatToRawIntBits(-0.0f)) {
            return BAD_VALUE;
        }
        if (a.bits[what] == bits) {
            return NONE;
        }
        record(a.copy());
        int was = a.bits[what];
        a.bits[what] = bits;
        return was;
    }

    private int held(int typist) {
        int n = 0;
        for (OneKey k : a.keys) {
            if (k.holder == typist) {
                n++;
            }
        }
        return n;
    }

    private int tryPress(int typist, int key) {
        if (!isTypist(typist) || !isKey(key)) {
            return UNKNOWN;
        }
        if (a.keys.get(key).holder != NONE) {
            return NOT_POSSIBLE;
        }
        if (held(typist) == 5) {
            return FULL;
        }
        a.keys.get(key).holder = typist;
        return held(typist);
    }

    private int tryRelease(int typist, int key) {
        if (!isTypist(typist) || !isKey(key)) {
            return UNKNOWN;
        }
        if (a.keys.get(key).holder != typist) {
            return NOT_POSSIBLE;
        }
        a.keys.get(key).holder = NONE;
        return held(typist);
    }

    public int press(int typist, int key) {
        All before = a.copy();
        int answer = tryPress(typist, key);
        if (answer >= 0) {
            record(before);
        }
        return answer;
    }

    public int release(int typist, int key) {
        All before = a.copy();
        int answer = tryRelease(typist, key);
        if (answer >= 0) {
            record(before);
        }
        return answer;
    }

    public int tick(int ticks) {
        if (ticks < 1 || ticks > 99) {
            return BAD_VALUE;
        }
        record(a.copy());
        int n = 0;
        for (int i = 0; i < ticks; i++) {
            n += oneTick();
        }
        return n;
    }

    /** Columns reached from a row by a search over rows and columns. */
    private Set<Integer> sensedFrom(int row) {
        Set<Integer> rowsSeen = new HashSet<>();
        Set<Integer> columnsSeen = new HashSet<>();
        ArrayDeque<int[]> todo = new ArrayDeque<>();
        todo.add(new int[] {0, row});
        rowsSeen.add(row);
        while (!todo.isEmpty()) {
            int[] at = todo.poll();
            for (int key = 0; key < a.keys.size(); key++) {
                if (a.keys.get(key).holder == NONE) {
                    continue;
                }
                int r = key / a.columns;
                int c = key % a.columns;
                if (at[0] == 0 && r == at[1] && columnsSeen.add(c)) {
                    todo.add(new int[] {1, c});
                }
                if (at[0] == 1 && c == at[1] && rowsSeen.add(r)) {
                    todo.add(new int[] {0, r});
                }
            }
        }
        return columnsSeen;
    }

    private boolean sensedNow(int key) {
        return sensedFrom(key / a.columns).contains(key % a.columns);
    }

    private boolean hasCorners(int key) {
        for (int x = 0; x < a.keys.size(); x++) {
            if (x == key || !a.keys.get(x).seen) {
                continue;
            }
            for (int y = x + 1; y < a.keys.size(); y++) {
                if (y == key || !a.keys.get(y).seen) {
                    continue;
                }
                for (int z = y + 1; z < a.keys.size(); z++) {
                    if (z == key || !a.keys.get(z).seen) {
                        continue;
                    }
                    Set<Integer> rs = new HashSet<>(Arrays.asList(key / a.columns, x / a.columns,
                            y / a.columns, z / a.columns));
                    Set<Integer> cs = new HashSet<>(Arrays.asList(key % a.columns, x % a.columns,
                            y % a.columns, z % a.columns));
                    if (rs.size() == 2 && cs.size() == 2) {
                        return true;
                    }
                }
            }
        }
        return false;
    }

    private boolean on(int typist) {
        int key = shiftKey(typist);
        return key != NONE && a.keys.get(key).seen && !a.keys.get(key).doubtful;
    }

    private int oneTick() {
        int row = a.tick % a.rows;
        Set<Integer> sensed = sensedFrom(row);
        int ended = 0;
        for (int c = 0; c < a.columns; c++) {
            OneKey k = a.keys.get(row * a.columns + c);
            if (k.seen && !sensed.contains(c)) {
                k.seen = false;
                end(row * a.columns + c);
                k.doubtful = false;
                ended++;
            }
        }
        List<Integer> fresh = new ArrayList<>();
        for (int c = 0; c < a.columns; c++) {
            OneKey k = a.keys.get(row * a.columns + c);
            if (!k.seen && sensed.contains(c)) {
                k.seen = true;
                k.since = a.tick;
                fresh.add(row * a.columns + c);
            }
        }
        for (int key : fresh) {
            a.keys.get(key).doubtful = hasCorners(key);
        }
        for (int key : fresh) {
            OneKey k = a.keys.get(key);
            k.shifts = new boolean[] {on(0), on(1)};
            k.trueHolder = k.holder;
        }
        a.tick++;
        return ended;
    }

    private float dist(int typist, int since, int dwell) {
        float d = dwell;
        float x = Math.abs(d - a.dwell[typist]);
        float result = x / a.dwell[typist];
        if (a.last[typist] != NONE) {
            float g = Math.abs(since - a.last[typist]);
            float y = Math.abs(g - a.gap[typist]);
            float z = y / a.gap[typist];
            float w = z * 0.5f;
            result = result + w;
        }
        return result;
    }

    private int becomes(int key) {
        OneKey k = a.keys.get(key);
        if (k.shiftOf != NONE) {
            return k.doubtful ? 2 : k.shiftOf;
        }
        float d0 = dist(0, k.since, a.tick - k.since);
        float d1 = dist(1, k.since, a.tick - k.since);
        int nearest = d0 <= d1 ? 0 : 1;
        if (k.doubtful) {
            return Math.min(d0, d1) > Float.intBitsToFloat(a.bits[1]) ? 2 : nearest;
        }
        float apart = d0 - d1;
        if (Math.abs(apart) < Float.intBitsToFloat(a.bits[0])) {
            return a.disputes.size() == 20 ? 2 : 3;
        }
        return nearest;
    }

    private void end(int key) {
        OneKey k = a.keys.get(key);
        OneStroke s = new OneStroke();
        s.key = key;
        s.since = k.since;
        s.dwell = a.tick - k.since;
        s.holder = k.trueHolder;
        s.shifts = k.shifts;
        s.fate = becomes(key);
        a.strokes.add(s);
        if (s.fate == 3) {
            a.disputes.add(a.strokes.size() - 1);
        } else {
            finish(s, k.shiftOf == NONE);
        }
    }

    private void finish(OneStroke s, boolean learns) {
        if (s.fate == 2) {
            return;
        }
        int t = s.fate;
        if (learns) {
            float rate = Float.intBitsToFloat(a.bits[2]);
            float d = s.dwell;
            float step = d - a.dwell[t];
            step = step * rate;
            a.dwell[t] = Math.max(0.5f, a.dwell[t] + step);
            if (a.last[t] != NONE) {
                float g = Math.abs(s.since - a.last[t]);
                float move = g - a.gap[t];
                move = move * rate;
                a.gap[t] = Math.max(0.5f, a.gap[t] + move);
            }
            a.last[t] = s.since;
        }
        if (isKey(s.key) && a.keys.get(s.key).sign != '.') {
            char sign = a.keys.get(s.key).sign;
            boolean capital = s.shifts[t] || a.borrows[t] && s.shifts[1 - t];
            a.typed.get(t).add((int) (capital ? Character.toUpperCase(sign) : sign));
        }
    }

    private OneStroke disputed(int dispute) {
        return a.strokes.get(a.disputes.get(dispute));
    }

    public int settle(int dispute, int who) {
        if (dispute < 0 || dispute >= a.disputes.size()) {
            return UNKNOWN;
        }
        if (who < 0 || who > 2) {
            return BAD_VALUE;
        }
        if (disputed(dispute).fate != 3) {
            return NOT_POSSIBLE;
        }
        record(a.copy());
        OneStroke s = disputed(dispute);
        s.fate = who;
        finish(s, true);
        return s.key;
    }

    public int type(char character) {
        if (text.length() == 60) {
            return FULL;
        }
        text = text + character;
        return text.length();
    }

    public int clearText() {
        int was = text.length();
        text = "";
        return was;
    }

    private int fault() {
        for (int i = 0; i < text.length(); i++) {
            if (!BEGUN.matcher(text.substring(0, i + 1)).matches()) {
                return i;
            }
        }
        return WHOLE.matcher(text).matches() ? -1 : text.length();
    }

    public int perform() {
        int fault = fault();
        if (fault >= 0) {
            return -100 - fault;
        }
        All before = a.copy();
        int ended = 0;
        for (String move : text.split(";")) {
            if (move.charAt(0) == 't') {
                int n = Integer.parseInt(move.substring(1));
                for (int i = 0; i < n; i++) {
                    ended += oneTick();
                }
                continue;
            }
            int typist = Integer.parseInt(move.substring(0, 1));
            int key = Integer.parseInt(move.substring(2));
            int answer = move.charAt(1) == 'd' ? tryPress(typist, key) : tryRelease(typist, key);
            if (answer < 0) {
                a = before;
                return answer;
            }
        }
        record(before);
        return ended;
    }

    public int undo() {
        if (history.isEmpty()) {
            return NONE;
        }
        a = history.pop();
        return history.size();
    }

    public int keep() {
        snapshot = a.copy();
        return a.tick;
    }

    public int restore() {
        if (snapshot == null) {
            return NONE;
        }
        record(a.copy());
        a = snapshot.copy();
        return a.tick;
    }

    public int key(int key, int what) {
        if (!isKey(key)) {
            return UNKNOWN;
        }
        OneKey k = a.keys.get(key);
        switch (what) {
            case 0: return k.holder;
            case 1: return k.seen ? 1 : 0;
            case 2: return k.seen ? k.since : NONE;
            case 3: return k.seen && k.doubtful ? 1 : 0;
            case 4: return k.sign;
            case 5: return k.shiftOf;
            case 6: return sensedNow(key) ? 1 : 0;
            default: return BAD_VALUE;
        }
    }

    private int finishedWhere(int fate, boolean onlyTrue) {
        int n = 0;
        for (OneStroke s : a.strokes) {
            int trueFate = fate == 2 ? NONE : fate;
            if (s.fate == fate && (!onlyTrue || s.holder == trueFate)) {
                n++;
            }
        }
        return n;
    }

    public int typist(int typist, int what) {
        if (!isTypist(typist)) {
            return UNKNOWN;
        }
        switch (what) {
            case 0: return held(typist);
            case 1: return shiftKey(typist);
            case 2: return on(typist) ? 1 : 0;
            case 3: return a.borrows[typist] ? 1 : 0;
            case 4: return finishedWhere(typist, false);
            case 5: return finishedWhere(typist, true);
            case 6: return a.typed.get(typist).size();
            case 7: return a.last[typist];
            default: return BAD_VALUE;
        }
    }

    public float style(int typist, int what) {
        if (!isTypist(typist) || what < 0 || what > 1) {
            return Float.NaN;
        }
        return what == 0 ? a.dwell[typist] : a.gap[typist];
    }

    public int hundredths(int typist, int what) {
        if (!isTypist(typist)) {
            return UNKNOWN;
        }
        if (what < 0 || what > 1) {
            return BAD_VALUE;
        }
        float hundred = style(typist, what) * 100.0f;
        return (int) hundred;
    }

    public int typed(int typist, int back) {
        if (!isTypist(typist)) {
            return UNKNOWN;
        }
        if (back < 0) {
            return BAD_VALUE;
        }
        List<Integer> list = a.typed.get(typist);
        return back >= 24 || back >= list.size() ? NONE : list.get(list.size() - 1 - back);
    }

    public int stroke(int back, int what) {
        if (back < 0 || what < 0 || what > 5) {
            return BAD_VALUE;
        }
        if (back >= 16 || back >= a.strokes.size()) {
            return NONE;
        }
        OneStroke s = a.strokes.get(a.strokes.size() - 1 - back);
        int noted = (s.shifts[0] ? 1 : 0) + (s.shifts[1] ? 2 : 0);
        int[] answers = {s.key, s.since, s.dwell, s.fate, s.holder, noted};
        return answers[what];
    }

    public int dispute(int dispute, int what) {
        if (dispute < 0 || dispute >= a.disputes.size()) {
            return UNKNOWN;
        }
        if (what < 0 || what > 4) {
            return BAD_VALUE;
        }
        OneStroke s = disputed(dispute);
        int[] answers = {s.key, s.since, s.dwell, s.fate == 3 ? NONE : s.fate, s.holder};
        return answers[what];
    }

    public float distance(int typist, int since, int dwell) {
        if (!isTypist(typist) || since < 0 || dwell < 0 || dwell > 9999) {
            return Float.NaN;
        }
        return dist(typist, since, dwell);
    }

    public int verdict(int key) {
        if (!isKey(key)) {
            return UNKNOWN;
        }
        return a.keys.get(key).seen ? becomes(key) : NONE;
    }

    public int ghostsBy(int key) {
        if (!isKey(key)) {
            return UNKNOWN;
        }
        Set<Integer> nowGhosts = ghosts(key);
        int was = a.keys.get(key).holder;
        a.keys.get(key).holder = was == NONE ? 0 : NONE;
        Set<Integer> thenGhosts = ghosts(key);
        a.keys.get(key).holder = was;
        Set<Integer> less = new HashSet<>(thenGhosts);
        less.removeAll(nowGhosts);
        nowGhosts.removeAll(thenGhosts);
        return nowGhosts.size() - less.size() + 100;
    }

    private Set<Integer> ghosts(int apart) {
        Set<Integer> result = new HashSet<>();
        for (int key = 0; key < a.keys.size(); key++) {
            if (key != apart && a.keys.get(key).holder == NONE && sensedNow(key)) {
                result.add(key);
            }
        }
        return result;
    }

    public int count(int what) {
        int down = 0;
        int seen = 0;
        int doubtful = 0;
        int open = 0;
        for (OneKey k : a.keys) {
            down += k.holder != NONE ? 1 : 0;
            seen += k.seen ? 1 : 0;
            doubtful += k.seen && k.doubtful ? 1 : 0;
        }
        for (OneStroke s : a.strokes) {
            open += s.fate == 3 ? 1 : 0;
        }
        int[] answers = {a.tick, a.rows, a.columns, down, seen, doubtful, a.strokes.size(),
            finishedWhere(0, false) + finishedWhere(1, false), finishedWhere(2, false), open, a.disputes.size(),
            finishedWhere(0, true) + finishedWhere(1, true), finishedWhere(2, true), a.tick % a.rows,
            history.size(), text.length()};
        return what < 0 || what >= answers.length ? BAD_VALUE : answers[what];
    }
}
