/** Promises 1 to 6: a new object, build, setSign, setShift, borrow, set. */
public final class KeyboardTest {
    private KeyboardTest() {
    }

    private static void newObject() {
        BlanketKeys x = new BlanketKeys();
        int[] counts = {0, 4, 6, 0, 0, 0, 0, 0, 0, 0, 0, 0, 0, 0, 0, 0};
        for (int what = 0; what < counts.length; what++) {
            Due.is("1: count(" + what + ")", x.count(what), counts[what]);
        }
        for (int key = 0; key < 24; key++) {
            int[] told = {BlanketKeys.NONE, 0, BlanketKeys.NONE, 0, '.', BlanketKeys.NONE, 0};
            for (int what = 0; what < told.length; what++) {
                Due.is("1: key(" + key + ", " + what + ")", x.key(key, what), told[what]);
            }
        }
        Due.is("1: key(24, 0)", x.key(24, 0), BlanketKeys.UNKNOWN);
        for (int typist = 0; typist < 2; typist++) {
            int[] told = {0, BlanketKeys.NONE, 0, 0, 0, 0, 0, BlanketKeys.NONE};
            for (int what = 0; what < told.length; what++) {
                Due.is("1: typist(" + typist + ", " + what + ")", x.typist(typist, what), told[what]);
            }
        }
        Due.is("1: style(0, 0)", x.style(0, 0), 4.0f);
        Due.is("1: style(0, 1)", x.style(0, 1), 6.0f);
        Due.is("1: style(1, 0)", x.style(1, 0), 8.0f);
        Due.is("1: style(1, 1)", x.style(1, 1), 10.0f);
        Due.is("1: undo", x.undo(), BlanketKeys.NONE);
        Due.is("1: restore", x.restore(), BlanketKeys.NONE);
        Due.is("1: perform", x.perform(), -100);
        Due.is("1: margin", x.set(0, 0), Float.floatToRawIntBits(0.125f));
        Due.is("1: trust", x.set(1, 0), Float.floatToRawIntBits(0.5f));
        Due.is("1: rate", x.set(2, 0), Float.floatToRawIntBits(0.25f));
    }

    private static void constants() {
        Due.is("UNKNOWN", BlanketKeys.UNKNOWN, -1);
        Due.is("BAD_VALUE", BlanketKeys.BAD_VALUE, -2);
        Due.is("FULL", BlanketKeys.FULL, -3);
        Due.is("NOT_POSSIBLE", BlanketKeys.NOT_POSSIBLE, -4);
        Due.is("NONE", BlanketKeys.NONE, -5);
    }

    private static void buildRanges() {
        BlanketKeys x = new BlanketKeys();
        int[][] wrong = {{1, 6}, {7, 6}, {4, 1}, {4, 9}, {0, 0}, {-4, -6}, {Integer.MAX_VALUE, 2}, {2, Integer.MIN_VALUE}};
        for (int[] sizes : wrong) {
            Due.is("2: build(" + sizes[0] + ", " + sizes[1] + ")", x.build(sizes[0], sizes[1]), BlanketKeys.BAD_VALUE);
        }
        Due.is("2: build as it is", x.build(4, 6), BlanketKeys.NONE);
        Due.is("2: nothing recorded", x.count(14), 0);
        Due.is("2: build(2, 2)", x.build(2, 2), 4);
        Due.is("2: build(6, 2)", x.build(6, 2), 12);
        Due.is("2: build(6, 8)", x.build(6, 8), 48);
        Due.is("2: build(2, 8)", x.build(2, 8), 16);
        Due.is("2: recorded", x.count(14), 4);
        Due.is("2: rows", x.count(1), 2);
        Due.is("2: columns", x.count(2), 8);
        Due.is("2: last key", x.key(15, 4), '.');
        Due.is("2: no key behind", x.key(16, 4), BlanketKeys.UNKNOWN);
        Due.is("2: columns alone differ", x.build(2, 7), 14);
        Due.is("2: rows alone differ", x.build(3, 7), 21);
    }

    private static void buildNeedsRest() {
        BlanketKeys x = new BlanketKeys();
        x.press(0, 0);
        Due.is("2: a key is down", x.build(2, 2), BlanketKeys.NOT_POSSIBLE);
        Due.is("2: down, and of this size", x.build(4, 6), BlanketKeys.NOT_POSSIBLE);
        Due.is("2: down, and a bad value", x.build(1, 2), BlanketKeys.BAD_VALUE);
        x.tick(1);
        x.release(0, 0);
        Due.is("2: up, but seen", x.build(2, 2), BlanketKeys.NOT_POSSIBLE);
        Due.is("2: seen, and of this size", x.build(4, 6), BlanketKeys.NOT_POSSIBLE);
        x.tick(4);
        Due.is("2: at rest", x.build(2, 2), 4);
    }

    private static void buildKeepsTheRest() {
        BlanketKeys x = new BlanketKeys();
        x.setSign(3, 'a');
        x.setSign(2, 'b');
        x.setShift(1, 0);
        x.borrow(1, true);
        x.set(1, 0);
        x.press(0, 3);
        x.tick(4);
        x.release(0, 3);
        x.tick(1);
        x.set(0, Float.floatToRawIntBits(2.0f));
        x.press(0, 2);
        x.tick(4);
        x.release(0, 2);
        x.tick(4);
        Due.is("2: a dispute is open", x.count(9), 1);
        Due.is("2: build", x.build(3, 3), 9);
        Due.is("2: sign is gone", x.key(3, 4), '.');
        Due.is("2: sign of 2 is gone", x.key(2, 4), '.');
        Due.is("2: shift is gone", x.typist(1, 1), BlanketKeys.NONE);
        Due.is("2: key is no shift", x.key(0, 5), BlanketKeys.NONE);
        Due.is("2: ticks stay", x.count(0), 13);
        Due.is("2: the row driven next", x.count(13), 1);
        Due.is("2: what was typed stays", x.typed(0, 0), 'a');
        Due.is("2: strokes stay", x.count(6), 2);
        Due.is("2: disputes stay", x.dispute(0, 0), 2);
        Due.is("2: borrowing stays", x.typist(1, 3), 1);
        Due.is("2: last stays", x.typist(0, 7), 0);
        Due.is("2: margin stays", x.set(0, 0), Float.floatToRawIntBits(2.0f));
        Due.is("2: trust stays", x.set(1, 1), 0);
        Due.is("2: settle a key without sign", x.settle(0, 0), 2);
        Due.is("2: nothing more typed", x.typist(0, 6), 1);
        Due.is("2: but credited", x.typist(0, 4), 2);
    }

    private static void setSign() {
        BlanketKeys x = new BlanketKeys();
        Due.is("3: key -1", x.setSign(-1, 'a'), BlanketKeys.UNKNOWN);
        Due.is("3: key 24", x.setSign(24, '?'), BlanketKeys.UNKNOWN);
        char[] wrong = {'A', 'Z', '`', '{', '-', '/', '0', 0, 233, 0xFFFF, 0x161, ' '};
        for (char sign : wrong) {
            Due.is("3: sign " + (int) sign, x.setSign(0, sign), BlanketKeys.BAD_VALUE);
        }
        Due.is("3: none as it was none", x.setSign(23, '.'), BlanketKeys.NONE);
        Due.is("3: nothing recorded", x.count(14), 0);
        Due.is("3: a", x.setSign(23, 'a'), '.');
        Due.is("3: recorded", x.count(14), 1);
        Due.is("3: a again", x.setSign(23, 'a'), BlanketKeys.NONE);
        Due.is("3: z", x.setSign(23, 'z'), 'a');
        Due.is("3: told", x.key(23, 4), 'z');
        Due.is("3: another key may bear it too", x.setSign(0, 'z'), '.');
        Due.is("3: none again", x.setSign(23, '.'), 'z');
        x.setShift(0, 5);
        x.setShift(1, 6);
        Due.is("3: a shift to none", x.setSign(5, '.'), '.');
        Due.is("3: no shift of 0", x.typist(0, 1), BlanketKeys.NONE);
        Due.is("3: no shift now", x.key(5, 5), BlanketKeys.NONE);
        Due.is("3: a shift to a letter", x.setSign(6, 'q'), '.');
        Due.is("3: no shift of 1", x.typist(1, 1), BlanketKeys.NONE);
        Due.is("3: its letter", x.key(6, 4), 'q');
        Due.is("3: none of no shift", x.setSign(5, '.'), BlanketKeys.NONE);
    }

    private static void setShift() {
        BlanketKeys x = new BlanketKeys();
        Due.is("4: typist -1", x.setShift(-1, 0), BlanketKeys.UNKNOWN);
        Due.is("4: typist 2", x.setShift(2, 0), BlanketKeys.UNKNOWN);
        Due.is("4: key -1", x.setShift(0, -1), BlanketKeys.UNKNOWN);
        Due.is("4: key 24", x.setShift(0, 24), BlanketKeys.UNKNOWN);
        x.setSign(7, 'g');
        Due.is("4: first shift", x.setShift(1, 7), 7);
        Due.is("4: its sign is gone", x.key(7, 4), '.');
        Due.is("4: whose", x.key(7, 5), 1);
        Due.is("4: of the other", x.setShift(0, 7), BlanketKeys.NOT_POSSIBLE);
        Due.is("4: again", x.setShift(1, 7), BlanketKeys.NONE);
        Due.is("4: recorded", x.count(14), 2);
        Due.is("4: another", x.setShift(1, 0), 7);
        Due.is("4: former is none now", x.key(7, 5), BlanketKeys.NONE);
        Due.is("4: former has no sign", x.key(7, 4), '.');
        Due.is("4: told", x.typist(1, 1), 0);
        Due.is("4: other may have the former", x.setShift(0, 7), 7);
        Due.is("4: both", x.typist(0, 1), 7);
        Due.is("4: key 0 as former", x.setShift(1, 3), 0);
    }

    private static void borrow() {
        BlanketKeys x = new BlanketKeys();
        Due.is("5: typist 2", x.borrow(2, true), BlanketKeys.UNKNOWN);
        Due.is("5: typist -1", x.borrow(-1, false), BlanketKeys.UNKNOWN);
        Due.is("5: as it is", x.borrow(0, false), BlanketKeys.NONE);
        Due.is("5: nothing recorded", x.count(14), 0);
        Due.is("5: 1 borrows", x.borrow(1, true), 1);
        Due.is("5: told", x.typist(1, 3), 1);
        Due.is("5: 0 does not", x.typist(0, 3), 0);
        Due.is("5: 0 borrows", x.borrow(0, true), 2);
        Due.is("5: again", x.borrow(0, true), BlanketKeys.NONE);
        Due.is("5: 1 no more", x.borrow(1, false), 1);
        Due.is("5: 0 no more", x.borrow(0, false), 0);
        Due.is("5: recorded", x.count(14), 4);
    }

    private static void set() {
        float[] mosts = {2.0f, 4.0f, 1.0f};
        float[] firsts = {0.125f, 0.5f, 0.25f};
        BlanketKeys x = new BlanketKeys();
        for (int what = 0; what < 3; what++) {
            int first = Float.floatToRawIntBits(firsts[what]);
            int most = Float.floatToRawIntBits(mosts[what]);
            Due.is("6: as it is", x.set(what, first), BlanketKeys.NONE);
            Due.is("6: too much", x.set(what, most + 1), BlanketKeys.BAD_VALUE);
            Due.is("6: -0.0f", x.set(what, Float.floatToRawIntBits(-0.0f)), BlanketKeys.BAD_VALUE);
            Due.is("6: below 0", x.set(what, Float.floatToRawIntBits(-0.1f)), BlanketKeys.BAD_VALUE);
            Due.is("6: least below 0", x.set(what, Float.floatToRawIntBits(-Float.MIN_VALUE)), BlanketKeys.BAD_VALUE);
            Due.is("6: no number", x.set(what, 0x7FC00000), BlanketKeys.BAD_VALUE);
            Due.is("6: no number either", x.set(what, 0xFFFFFFFF), BlanketKeys.BAD_VALUE);
            Due.is("6: no number once more", x.set(what, 0x7F800001), BlanketKeys.BAD_VALUE);
            Due.is("6: without an end", x.set(what, 0x7F800000), BlanketKeys.BAD_VALUE);
            Due.is("6: below without an end", x.set(what, 0xFF800000), BlanketKeys.BAD_VALUE);
            Due.is("6: most", x.set(what, most), first);
            Due.is("6: least of all floats", x.set(what, 1), most);
            Due.is("6: 0.0f", x.set(what, 0), 1);
            Due.is("6: 0.0f again", x.set(what, 0), BlanketKeys.NONE);
            Due.is("6: first", x.set(what, first), 0);
        }
        Due.is("6: what -1", x.set(-1, 0), BlanketKeys.BAD_VALUE);
        Due.is("6: what 3", x.set(3, 0), BlanketKeys.BAD_VALUE);
        Due.is("6: recorded", x.count(14), 4);
    }

    /** With the rate 1 a mean becomes what was learned, with 0 it stays, with others it lies between. */
    private static void rateCounts() {
        float[] rates = {0.0f, 1.0f, 0.25f, 0.3f, Float.MIN_VALUE, 1.0e-39f, 1.0e-7f, 0.99999994f};
        for (float rate : rates) {
            BlanketKeys x = new BlanketKeys();
            x.build(5, 2);
            x.set(2, Float.floatToRawIntBits(rate));
            x.press(0, 0);
            x.tick(5);
            x.release(0, 0);
            x.tick(1);
            float off = 5.0f - 4.0f;
            float step = off * rate;
            Due.is("6: rate " + rate, x.style(0, 0), 4.0f + step);
        }
    }

    public static void main(String[] args) {
        newObject();
        constants();
        buildRanges();
        buildNeedsRest();
        buildKeepsTheRest();
        setSign();
        setShift();
        borrow();
        set();
        rateCounts();
        Due.tell();
    }
}
