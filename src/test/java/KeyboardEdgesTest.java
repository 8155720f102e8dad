/** Each sentence of "THE KEYBOARD" and of the promises 1 to 6 that names a boundary, on both of its sides. */
public final class KeyboardEdgesTest {
    private static final int MOST = Integer.MAX_VALUE;
    private static final int LEAST = Integer.MIN_VALUE;

    private KeyboardEdgesTest() {
    }

    /** "The keyboard has 2 to 6 rows and 2 to 8 columns (at first 4 and 6)." */
    private static void atFirst() {
        Edge.tells("1: at first 4 rows", Edge.NEW, k -> k.count(1), 4);
        Edge.tells("1: at first 6 columns", Edge.NEW, k -> k.count(2), 6);
        Edge.tells("1: the last key at first", Edge.NEW, k -> k.key(23, 4), '.');
        Edge.tells("1: no key behind it", Edge.NEW, k -> k.key(24, 4), Edge.UNKNOWN);
        Edge.refused("2: NONE if it has so many already, at first", Edge.NEW, k -> k.build(4, 6), Edge.NONE);
    }

    private static void eachSize() {
        for (int r = -1; r <= 8; r++) {
            for (int c = -1; c <= 10; c++) {
                int rows = r;
                int columns = c;
                String call = "2: build(" + r + ", " + c + ")";
                boolean isSize = r >= 2 && r <= 6 && c >= 2 && c <= 8;
                int due = !isSize ? Edge.BAD_VALUE : r == 4 && c == 6 ? Edge.NONE : r * c;
                Keys k = new RealKeys();
                Due.is(call, k.build(rows, columns), due);
                Due.is(call + ", rows then", k.count(1), isSize ? rows : 4);
                Due.is(call + ", columns then", k.count(2), isSize ? columns : 6);
                int size = isSize ? rows * columns : 24;
                Due.is(call + ", its last key", k.press(0, size - 1), 1);
                Due.is(call + ", no key behind it", k.press(0, size), Edge.UNKNOWN);
            }
        }
    }

    private static void tooSmallOrLarge() {
        int[][] wrong = {{1, 2}, {1, 8}, {7, 2}, {7, 8}, {2, 1}, {6, 1}, {2, 9}, {6, 9}, {0, 6}, {4, 0}, {-2, 6}, {4, -2},
            {LEAST, 6}, {MOST, 6}, {4, LEAST}, {4, MOST}, {65540, 6}, {4, 65542}, {6, 4 << 30}};
        for (int[] sizes : wrong) {
            Edge.refused("2: BAD_VALUE of build(" + sizes[0] + ", " + sizes[1] + ")", KeyboardEdgesTest::used,
                    k -> k.build(sizes[0], sizes[1]), Edge.BAD_VALUE);
        }
        int[][] right = {{2, 2}, {2, 8}, {6, 2}, {6, 8}};
        for (int[] sizes : right) {
            Edge.act("2: build(" + sizes[0] + ", " + sizes[1] + ")", KeyboardEdgesTest::used,
                    k -> k.build(sizes[0], sizes[1]), sizes[0] * sizes[1]);
        }
    }

    /** A keyboard of 4 rows and 6 columns at rest, with something of everything behind it. */
    private static void used(Keys k) {
        k.setSign(0, 'a');
        k.setSign(23, 'z');
        k.setShift(0, 1);
        k.borrow(1, true);
        k.set(0, Edge.bits(1.5f));
        k.press(1, 1);
        k.tick(4);
        Edge.strike(k, 0, 0, 4);
        k.release(1, 1);
        k.tick(3);
        Edge.write(k, "0d2;t5");
        k.keep();
        k.tick(4);
    }

    /** "NOT_POSSIBLE if a key is down or seen": of either alone, and of the last key alone. */
    private static void atRest() {
        Keys.Way[] downs = {k -> k.press(0, 0), k -> k.press(1, 23)};
        for (Keys.Way down : downs) {
            Edge.tells("2: down", down, k -> k.count(3), 1);
            Edge.tells("2: and not seen", down, k -> k.count(4), 0);
            Edge.refused("2: NOT_POSSIBLE if a key is down", down, k -> k.build(2, 2), Edge.NOT_POSSIBLE);
            Edge.refused("2: NOT_POSSIBLE before NONE", down, k -> k.build(4, 6), Edge.NOT_POSSIBLE);
            Edge.refused("2: BAD_VALUE before NOT_POSSIBLE", down, k -> k.build(4, 9), Edge.BAD_VALUE);
        }
        Keys.Way seen = k -> {
            k.press(1, 23);
            k.tick(4);
            k.release(1, 23);
            k.tick(3);
        };
        Edge.tells("2: seen", seen, k -> k.count(4), 1);
        Edge.tells("2: and not down", seen, k -> k.count(3), 0);
        Edge.refused("2: NOT_POSSIBLE if a key is seen", seen, k -> k.build(2, 2), Edge.NOT_POSSIBLE);
        Edge.refused("2: NOT_POSSIBLE before NONE, seen", seen, k -> k.build(4, 6), Edge.NOT_POSSIBLE);
        Edge.refused("2: BAD_VALUE before NOT_POSSIBLE, seen", seen, k -> k.build(7, 6), Edge.BAD_VALUE);
        Keys.Way ended = Whole.then(seen, k -> k.tick(1));
        Edge.act("2: possible if none is down or seen", ended, k -> k.build(2, 2), 4);
        Edge.refused("2: NONE if it has so many already", ended, k -> k.build(4, 6), Edge.NONE);
    }

    /** A key that was never down can be the one that is seen still. */
    private static void ghostSeen() {
        Keys.Way ghost = k -> {
            k.build(2, 2);
            k.press(0, 1);
            k.press(0, 2);
            k.press(0, 3);
            k.tick(1);
            k.release(0, 2);
            k.release(0, 3);
            k.release(0, 1);
            k.tick(1);
        };
        Edge.tells("2: the ghost is seen", ghost, k -> k.key(0, 1), 1);
        Edge.tells("2: nothing is down", ghost, k -> k.count(3), 0);
        Edge.refused("2: NOT_POSSIBLE if a ghost is seen", ghost, k -> k.build(2, 3), Edge.NOT_POSSIBLE);
        Edge.act("2: possible when it ended", Whole.then(ghost, k -> k.tick(1)), k -> k.build(2, 3), 6);
    }

    /** "NONE if it has so many rows and columns already": both, not one of both. */
    private static void asManyAlready() {
        Keys.Way built = k -> k.build(3, 5);
        Edge.refused("2: NONE, rows and columns", built, k -> k.build(3, 5), Edge.NONE);
        Edge.act("2: the rows alone are the same", built, k -> k.build(3, 4), 12);
        Edge.act("2: the columns alone are the same", built, k -> k.build(2, 5), 10);
        Edge.act("2: as many keys, the other way round", built, k -> k.build(5, 3), 15);
    }

    /** "no key has a sign or is a shift then", also none that there was not before, and none that comes back later. */
    private static void buildForgetsSigns() {
        Keys.Way signed = k -> {
            for (int key = 0; key < 24; key++) {
                k.setSign(key, (char) ('a' + key));
            }
            k.setShift(0, 0);
            k.setShift(1, 23);
        };
        int[][] sizes = {{2, 2}, {6, 8}};
        for (int[] size : sizes) {
            Keys.Way built = Whole.then(signed, k -> k.build(size[0], size[1]));
            Keys k = Edge.after(built);
            for (int key = 0; key < size[0] * size[1]; key++) {
                Due.is("2: no key has a sign then, " + key, k.key(key, 4), '.');
                Due.is("2: no key is a shift then, " + key, k.key(key, 5), Edge.NONE);
            }
            Due.is("2: no shift of 0", k.typist(0, 1), Edge.NONE);
            Due.is("2: no shift of 1", k.typist(1, 1), Edge.NONE);
            Keys again = Edge.after(Whole.then(built, x -> x.build(4, 6)));
            for (int key = 0; key < 24; key++) {
                Due.is("2: nor when it is built as it was, " + key, again.key(key, 4), '.');
            }
            Due.is("2: the shift neither", again.typist(1, 1), Edge.NONE);
        }
    }

    /** "Ticks, styles, strokes, disputes, what was typed, who borrows and the settings stay." */
    private static void buildLeavesTheRest() {
        Keys before = Edge.after(KeyboardEdgesTest::used);
        Keys then = Edge.after(Whole.then(KeyboardEdgesTest::used, k -> k.build(6, 8)));
        int[] kept = {0, 6, 7, 8, 9, 10, 11, 12, 15};
        for (int what : kept) {
            Due.is("2: count(" + what + ") stays", then.count(what), before.count(what));
        }
        for (int typist = 0; typist < 2; typist++) {
            for (int what = 3; what <= 7; what++) {
                Due.is("2: typist(.., " + what + ") stays", then.typist(typist, what), before.typist(typist, what));
            }
            Due.is("2: mean dwell stays", then.style(typist, 0), before.style(typist, 0));
            Due.is("2: mean gap stays", then.style(typist, 1), before.style(typist, 1));
        }
        for (int what = 0; what <= 5; what++) {
            Due.is("2: stroke(1, " + what + ") stays", then.stroke(1, what), before.stroke(1, what));
        }
        Due.is("2: there is a stroke", before.stroke(1, 0), 0);
        Due.is("2: the margin stays", then.set(0, 0), Edge.bits(1.5f));
    }

    /** "The key of the row r and the column c has the number r * columns + c." */
    private static void numbers() {
        for (int r = 2; r <= 6; r++) {
            for (int c = 2; c <= 8; c++) {
                numbersOf(r, c);
            }
        }
    }

    private static void numbersOf(int rows, int columns) {
        String size = rows + " x " + columns + ": ";
        for (int row = 0; row < rows; row++) {
            int[] keys = {row * columns, row * columns + columns - 1};
            for (int key : keys) {
                Keys k = new RealKeys();
                k.build(rows, columns);
                k.press(1, key);
                for (int i = 0; i < row; i++) {
                    k.tick(1);
                    Due.is(size + "the row before that of " + key, k.key(key, 1), 0);
                }
                k.tick(1);
                Due.is(size + "the row of " + key, k.key(key, 1), 1);
                Due.is(size + "no other key", k.count(4), 1);
            }
        }
        for (int first = 0; first < rows; first++) {
            for (int second = first + 1; second < rows; second++) {
                for (int missing = 0; missing < 4; missing++) {
                    cornersOf(rows, columns, new int[] {first, second}, missing);
                }
            }
        }
    }

    /** Three corners in two rows and the outer columns join the fourth one, which is a ghost; and no other key. */
    private static void cornersOf(int rows, int columns, int[] outerRows, int missing) {
        String size = rows + " x " + columns + ", rows " + outerRows[0] + " and " + outerRows[1] + ": ";
        Keys k = new RealKeys();
        k.build(rows, columns);
        int[] corners = new int[4];
        for (int i = 0; i < 4; i++) {
            corners[i] = outerRows[i / 2] * columns + i % 2 * (columns - 1);
            if (i != missing) {
                k.press(0, corners[i]);
            }
        }
        for (int key = 0; key < rows * columns; key++) {
            boolean isCorner = key == corners[0] || key == corners[1] || key == corners[2] || key == corners[3];
            Due.is(size + "sensed, " + key, k.key(key, 6), isCorner ? 1 : 0);
            Due.is(size + "ghosts by " + key, k.ghostsBy(key), isCorner && key != corners[missing] ? 101 : ghostsByApart(key, corners, columns));
        }
        k.tick(rows);
        Due.is(size + "four are seen", k.count(4), 4);
        Due.is(size + "doubtful in the second row, left", k.key(corners[2], 3), 1);
        Due.is(size + "doubtful in the second row, right", k.key(corners[3], 3), 1);
        Due.is(size + "no other is doubtful", k.count(5), 2);
    }

    /** A key in a row or a column of three corners would join that column to both rows, or that row to both columns. */
    private static int ghostsByApart(int key, int[] corners, int columns) {
        boolean isInRow = key / columns == corners[0] / columns || key / columns == corners[2] / columns;
        boolean isInColumn = key % columns == 0 || key % columns == columns - 1;
        return isInRow != isInColumn ? 99 : 100;
    }

    /** "A key has a sign (a letter a to z, or none; at first none)": every character that there is. */
    private static void everySign() {
        for (int c = 0; c <= 0xFFFF; c++) {
            char sign = (char) c;
            Keys k = new RealKeys();
            boolean isLetter = c >= 97 && c <= 122;
            int due = isLetter ? 46 : c == 46 ? Edge.NONE : Edge.BAD_VALUE;
            Due.is("", "3: sign " + c, k.setSign(9, sign), due);
            Due.is("", "3: told after sign " + c, k.key(9, 4), isLetter ? c : 46);
        }
        char[] wrong = {'`', '{', '-', '/', 'A', 'Z', 0, ' ', 255, 0x161, 0x12E, 0xFFFF};
        for (char sign : wrong) {
            Edge.refused("3: BAD_VALUE of " + (int) sign, KeyboardEdgesTest::used, k -> k.setSign(3, sign), Edge.BAD_VALUE);
            Edge.refused("3: UNKNOWN before BAD_VALUE", KeyboardEdgesTest::used, k -> k.setSign(24, sign), Edge.UNKNOWN);
            Edge.refused("3: BAD_VALUE of a shift", KeyboardEdgesTest::used, k -> k.setSign(1, sign), Edge.BAD_VALUE);
        }
        Edge.act("3: a", KeyboardEdgesTest::used, k -> k.setSign(3, 'a'), '.');
        Edge.act("3: z", KeyboardEdgesTest::used, k -> k.setSign(0, 'z'), 'a');
        Edge.act("3: none", KeyboardEdgesTest::used, k -> k.setSign(23, '.'), 'z');
    }

    /** The first and the last key, and those before and behind them, in each call that takes a key to change it. */
    private static void firstAndLastKey() {
        int[][] sizes = {{4, 6}, {2, 2}, {6, 8}};
        for (int[] size : sizes) {
            int last = size[0] * size[1] - 1;
            Keys.Way built = k -> k.build(size[0], size[1]);
            int[] none = {-1, last + 1, LEAST, MOST, last + 65537, -last - 1};
            for (int key : none) {
                Edge.refused("3: UNKNOWN of key " + key, built, k -> k.setSign(key, 'b'), Edge.UNKNOWN);
                Edge.refused("4: UNKNOWN of key " + key, built, k -> k.setShift(0, key), Edge.UNKNOWN);
            }
            int[] some = {0, last};
            for (int key : some) {
                Edge.act("3: key " + key, built, k -> k.setSign(key, 'b'), '.');
                Edge.act("4: key " + key, built, k -> k.setShift(1, key), key);
            }
        }
    }

    /** "NONE if it has this sign already and is no shift." */
    private static void signAlready() {
        Keys.Way way = k -> {
            k.setSign(3, 'c');
            k.setShift(1, 4);
        };
        Edge.refused("3: NONE if it has this sign", way, k -> k.setSign(3, 'c'), Edge.NONE);
        Edge.act("3: it has another sign", way, k -> k.setSign(3, 'd'), 'c');
        Edge.refused("3: NONE if it has none", way, k -> k.setSign(5, '.'), Edge.NONE);
        Edge.act("3: none, but it is a shift", way, k -> k.setSign(4, '.'), '.');
        Edge.tells("3: it is no shift then", Whole.then(way, k -> k.setSign(4, '.')), k -> k.typist(1, 1), Edge.NONE);
        Edge.act("3: a letter for a shift", way, k -> k.setSign(4, 'c'), '.');
        Edge.tells("3: it is no shift then, either", Whole.then(way, k -> k.setSign(4, 'c')), k -> k.key(4, 5), Edge.NONE);
        Keys.Way no = Whole.then(way, k -> k.setSign(4, '.'));
        Edge.refused("3: NONE, now that it is no shift", no, k -> k.setSign(4, '.'), Edge.NONE);
    }

    /** "one that is down is held by one of the two typists, 0 and 1": there is none before and none behind them. */
    private static void typists() {
        int[] none = {-1, 2, LEAST, MOST, 65536, 1 << 8};
        for (int typist : none) {
            String of = " of typist " + typist;
            Edge.refused("4: UNKNOWN" + of, KeyboardEdgesTest::used, k -> k.setShift(typist, 3), Edge.UNKNOWN);
            Edge.refused("4: UNKNOWN before NOT_POSSIBLE" + of, KeyboardEdgesTest::used, k -> k.setShift(typist, 1), Edge.UNKNOWN);
            Edge.refused("5: UNKNOWN, true" + of, KeyboardEdgesTest::used, k -> k.borrow(typist, true), Edge.UNKNOWN);
            Edge.refused("5: UNKNOWN, false" + of, KeyboardEdgesTest::used, k -> k.borrow(typist, false), Edge.UNKNOWN);
        }
    }

    /** "the key that was the shift of the typist before (or this key itself, if the typist had none)." */
    private static void shifts() {
        Keys.Way way = k -> {
            k.setSign(7, 'g');
            k.setShift(0, 0);
        };
        Edge.refused("4: NONE if it is this typist's already", way, k -> k.setShift(0, 0), Edge.NONE);
        Edge.refused("4: NOT_POSSIBLE if it is that of the other", way, k -> k.setShift(1, 0), Edge.NOT_POSSIBLE);
        Edge.act("4: this key itself, if there was none", way, k -> k.setShift(1, 7), 7);
        Edge.act("4: the key 0, if it was that", way, k -> k.setShift(0, 7), 0);
        Keys.Way moved = Whole.then(way, k -> k.setShift(0, 7));
        Edge.tells("4: it has no sign then", moved, k -> k.key(7, 4), '.');
        Edge.tells("4: each typist has at most one", moved, k -> k.key(0, 5), Edge.NONE);
        Edge.tells("4: told of the typist", moved, k -> k.typist(0, 1), 7);
        Edge.act("4: the other may have the former then", moved, k -> k.setShift(1, 0), 0);
        Edge.refused("4: NOT_POSSIBLE, now the other way", Whole.then(moved, k -> k.setShift(1, 0)),
                k -> k.setShift(0, 0), Edge.NOT_POSSIBLE);
        Keys.Way given = Whole.then(way, k -> k.setSign(0, '.'));
        Edge.act("4: a shift that was given up", given, k -> k.setShift(1, 0), 0);
        Edge.act("4: this key itself, if there is none any more", given, k -> k.setShift(0, 9), 9);
        Edge.refused("3: NONE, the former has no sign", moved, k -> k.setSign(0, '.'), Edge.NONE);
    }

    /** A key can become a shift, or no shift, while it is down and seen. */
    private static void shiftsOfSeenKeys() {
        Keys.Way seen = k -> {
            k.press(0, 0);
            k.tick(1);
        };
        Edge.tells("4: not on", seen, k -> k.typist(1, 2), 0);
        Edge.act("4: a key that is seen", seen, k -> k.setShift(1, 0), 0);
        Keys.Way on = Whole.then(seen, k -> k.setShift(1, 0));
        Edge.tells("18: it is on at once", on, k -> k.typist(1, 2), 1);
        Edge.tells("18: not that of the other", on, k -> k.typist(0, 2), 0);
        Edge.act("3: no shift any more", on, k -> k.setSign(0, 'x'), '.');
        Edge.tells("18: none is on then", Whole.then(on, k -> k.setSign(0, 'x')), k -> k.typist(1, 2), 0);
    }

    /** "how many typists borrow then; UNKNOWN; NONE if it is so already." */
    private static void borrowers() {
        Keys.Way one = k -> k.borrow(0, true);
        Keys.Way two = Whole.then(one, k -> k.borrow(1, true));
        Edge.refused("5: NONE, 0 does not", Edge.NEW, k -> k.borrow(0, false), Edge.NONE);
        Edge.refused("5: NONE, 1 does not", Edge.NEW, k -> k.borrow(1, false), Edge.NONE);
        Edge.act("5: 0 of none", Edge.NEW, k -> k.borrow(0, true), 1);
        Edge.act("5: 1 of none", Edge.NEW, k -> k.borrow(1, true), 1);
        Edge.refused("5: NONE, 0 does", one, k -> k.borrow(0, true), Edge.NONE);
        Edge.act("5: 1 beside 0", one, k -> k.borrow(1, true), 2);
        Edge.refused("5: NONE, both do", two, k -> k.borrow(1, true), Edge.NONE);
        Edge.act("5: 0 no more, of two", two, k -> k.borrow(0, false), 1);
        Edge.act("5: 1 no more, of two", two, k -> k.borrow(1, false), 1);
        Edge.act("5: 0 no more, of one", one, k -> k.borrow(0, false), 0);
    }

    /** "The margin is from 0.0f to 2.0f (at first 0.125f), the trust .. 4.0f (.. 0.5f), the rate .. 1.0f (.. 0.25f)." */
    private static void settings() {
        float[] mosts = {2.0f, 4.0f, 1.0f};
        float[] firsts = {0.125f, 0.5f, 0.25f};
        int[] wrong = {0x80000000, 0x80000001, 0xBE000000, 0xBF000000, 0xBE800000, 0x7F800000, 0xFF800000, 0x7F800001,
            0x7FC00000, 0x7FFFFFFF, 0xFF800001, 0xFFC00000, 0xFFFFFFFF, 0x7F7FFFFF, 0xFF7FFFFF, 0x40800001};
        for (int i = 0; i < 3; i++) {
            int what = i;
            int first = Edge.bits(firsts[i]);
            int most = Edge.bits(mosts[i]);
            String set = "6: set(" + what + ", ..) ";
            Edge.refused(set + "NONE at first", Edge.NEW, k -> k.set(what, first), Edge.NONE);
            Edge.refused(set + "just above the greatest", Edge.NEW, k -> k.set(what, most + 1), Edge.BAD_VALUE);
            for (int bits : wrong) {
                Edge.refused(set + "bits " + bits, Edge.NEW, k -> k.set(what, bits), Edge.BAD_VALUE);
            }
            int[] right = {most, most - 1, 0, 1, first + 1, first - 1, 0x007FFFFF, 0x00800000};
            for (int bits : right) {
                Edge.act(set + "bits " + bits, Edge.NEW, k -> k.set(what, bits), first);
                Keys.Way done = k -> k.set(what, bits);
                Edge.refused(set + "NONE, bits " + bits, done, k -> k.set(what, bits), Edge.NONE);
                Edge.act(set + "back from bits " + bits, done, k -> k.set(what, first), bits);
                Edge.refused(set + "-0.0f, not 0.0f", done, k -> k.set(what, 0x80000000), Edge.BAD_VALUE);
            }
        }
        Keys.Way changed = k -> k.set(0, 0);
        int[] whats = {-1, 3, LEAST, MOST, 256, 65536};
        for (int what : whats) {
            Edge.refused("6: BAD_VALUE of what " + what, changed, k -> k.set(what, 0), Edge.BAD_VALUE);
        }
    }

    /** What is above the greatest of the one can be within the range of another. */
    private static void rangesApart() {
        int[][] due = {{Edge.bits(0.125f), Edge.bits(0.5f), Edge.BAD_VALUE}, {Edge.bits(0.125f), Edge.bits(0.5f), Edge.BAD_VALUE},
            {Edge.BAD_VALUE, Edge.bits(0.5f), Edge.BAD_VALUE}, {Edge.BAD_VALUE, Edge.bits(0.5f), Edge.BAD_VALUE}};
        float[] values = {1.5f, 2.0f, 2.5f, 4.0f};
        for (int i = 0; i < values.length; i++) {
            int bits = Edge.bits(values[i]);
            for (int j = 0; j < 3; j++) {
                int what = j;
                Edge.tells("6: set(" + what + ") to " + values[i], Edge.NEW, k -> k.set(what, bits), due[i][what]);
            }
        }
    }

    public static void main(String[] args) {
        atFirst();
        eachSize();
        tooSmallOrLarge();
        atRest();
        ghostSeen();
        asManyAlready();
        buildForgetsSigns();
        buildLeavesTheRest();
        numbers();
        everySign();
        firstAndLastKey();
        signAlready();
        typists();
        shifts();
        shiftsOfSeenKeys();
        borrowers();
        settings();
        rangesApart();
        Due.tell();
    }
}
