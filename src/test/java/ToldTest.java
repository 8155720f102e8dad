/** Promises 17 to 27: what is told. */
public final class ToldTest {
    private static final int WIDE = Float.floatToRawIntBits(2.0f);

    private ToldTest() {
    }

    private static void strike(BlanketKeys x, int typist, int key, int dwell) {
        x.press(typist, key);
        x.tick(dwell);
        x.release(typist, key);
        x.tick(1);
    }

    private static void key() {
        BlanketKeys x = new BlanketKeys();
        x.build(2, 2);
        x.setShift(1, 1);
        x.setSign(2, 'w');
        x.press(1, 0);
        x.press(0, 1);
        x.press(1, 3);
        x.tick(4);
        int[][] told = {
            {1, 1, 0, 0, '.', BlanketKeys.NONE, 1},
            {0, 1, 0, 0, '.', 1, 1},
            {BlanketKeys.NONE, 1, 1, 1, 'w', BlanketKeys.NONE, 1},
            {1, 1, 1, 1, '.', BlanketKeys.NONE, 1},
        };
        for (int key = 0; key < 4; key++) {
            for (int what = 0; what < 7; what++) {
                Due.is("17: key(" + key + ", " + what + ")", x.key(key, what), told[key][what]);
            }
            Due.is("17: what 7", x.key(key, 7), BlanketKeys.BAD_VALUE);
            Due.is("17: what -1", x.key(key, -1), BlanketKeys.BAD_VALUE);
        }
        Due.is("17: key 4", x.key(4, 0), BlanketKeys.UNKNOWN);
        Due.is("17: key -1", x.key(-1, 0), BlanketKeys.UNKNOWN);
        Due.is("17: both wrong", x.key(-1, 9), BlanketKeys.UNKNOWN);
        x.release(1, 0);
        Due.is("17: seen still", x.key(2, 1), 1);
        Due.is("17: yet it would not be sensed", x.key(2, 6), 0);
        Due.is("17: nothing is recorded", x.count(14), 4);
    }

    private static void typist() {
        BlanketKeys x = new BlanketKeys();
        x.build(2, 3);
        x.setShift(1, 2);
        x.setSign(0, 'r');
        strike(x, 0, 0, 2);
        x.tick(1);
        strike(x, 1, 0, 2);
        x.tick(1);
        x.press(1, 2);
        x.press(1, 4);
        x.tick(1);
        x.borrow(1, true);
        int[][] told = {
            {0, BlanketKeys.NONE, 0, 0, 2, 1, 2, 4},
            {2, 2, 1, 1, 0, 0, 0, BlanketKeys.NONE},
        };
        for (int typist = 0; typist < 2; typist++) {
            for (int what = 0; what < 8; what++) {
                Due.is("18: typist(" + typist + ", " + what + ")", x.typist(typist, what), told[typist][what]);
            }
            Due.is("18: what 8", x.typist(typist, 8), BlanketKeys.BAD_VALUE);
            Due.is("18: what -1", x.typist(typist, -1), BlanketKeys.BAD_VALUE);
        }
        Due.is("18: typist 2", x.typist(2, 0), BlanketKeys.UNKNOWN);
        Due.is("18: typist -1", x.typist(-1, 8), BlanketKeys.UNKNOWN);
    }

    private static void styles() {
        BlanketKeys x = new BlanketKeys();
        x.build(3, 2);
        x.set(2, Float.floatToRawIntBits(0.1f));
        strike(x, 0, 0, 3);
        float step = (3.0f - 4.0f) * 0.1f;
        Due.is("19: mean dwell", x.style(0, 0), 4.0f + step);
        Due.is("20: 3.9", x.hundredths(0, 0), (int) ((4.0f + step) * 100.0f));
        Due.is("19: mean gap of 1", x.style(1, 1), 10.0f);
        Due.is("20: mean gap of 0", x.hundredths(0, 1), 600);
        Due.is("20: mean dwell of 1", x.hundredths(1, 0), 800);
        Due.is("20: mean gap of 1", x.hundredths(1, 1), 1000);
        x.tick(2);
        strike(x, 0, 0, 3);
        Due.is("20: what is behind the point is dropped", x.hundredths(0, 0), 381);
        Due.isNoNumber("19: typist 2", x.style(2, 0));
        Due.isNoNumber("19: typist -1", x.style(-1, 1));
        Due.isNoNumber("19: what 2", x.style(0, 2));
        Due.isNoNumber("19: what -1", x.style(1, -1));
        Due.is("20: typist 2", x.hundredths(2, 0), BlanketKeys.UNKNOWN);
        Due.is("20: typist -1", x.hundredths(-1, 7), BlanketKeys.UNKNOWN);
        Due.is("20: what 2", x.hundredths(0, 2), BlanketKeys.BAD_VALUE);
        Due.is("20: what -1", x.hundredths(1, -1), BlanketKeys.BAD_VALUE);
    }

    private static void typedByHand() {
        BlanketKeys x = new BlanketKeys();
        x.build(2, 2);
        x.set(2, 0);
        x.set(0, WIDE);
        for (int i = 0; i < 20; i++) {
            x.setSign(0, (char) ('a' + i));
            strike(x, 0, 0, 2);
            x.tick(1);
            x.settle(i, 0);
        }
        Due.is("21: typed by hand", x.typist(0, 6), 20);
        Due.is("21: latest", x.typed(0, 0), 't');
        Due.is("21: first", x.typed(0, 19), 'a');
        Due.is("21: before the first", x.typed(0, 20), BlanketKeys.NONE);
        Due.is("21: back -1", x.typed(0, -1), BlanketKeys.BAD_VALUE);
        Due.is("21: typist 2", x.typed(2, 0), BlanketKeys.UNKNOWN);
        Due.is("21: typist -1", x.typed(-1, -1), BlanketKeys.UNKNOWN);
        Due.is("21: nothing of 1", x.typed(1, 0), BlanketKeys.NONE);
        Due.is("21: far back", x.typed(0, Integer.MAX_VALUE), BlanketKeys.NONE);
    }

    /** Strokes of the dwell 4, of which each begins 6 ticks after the last, have the distance 0 from the typist 0. */
    private static void typedMore() {
        BlanketKeys x = new BlanketKeys();
        x.build(2, 2);
        for (int i = 0; i < 26; i++) {
            x.setSign(0, (char) ('a' + i));
            strike(x, 0, 0, 4);
            x.tick(1);
        }
        Due.is("21: typed", x.typist(0, 6), 26);
        Due.is("21: style stays", x.style(0, 0) + x.style(0, 1), 10.0f);
        for (int back = 0; back < 24; back++) {
            Due.is("21: back " + back, x.typed(0, back), 'z' - back);
        }
        Due.is("21: back 24", x.typed(0, 24), BlanketKeys.NONE);
        Due.is("21: back 25", x.typed(0, 25), BlanketKeys.NONE);
        Due.is("22: strokes", x.count(6), 26);
        for (int back = 0; back < 16; back++) {
            Due.is("22: since, back " + back, x.stroke(back, 1), (25 - back) * 6);
        }
        Due.is("22: back 16", x.stroke(16, 1), BlanketKeys.NONE);
        Due.is("22: back 19", x.stroke(19, 1), BlanketKeys.NONE);
        Due.is("22: back 25", x.stroke(25, 1), BlanketKeys.NONE);
    }

    private static void stroke() {
        BlanketKeys x = new BlanketKeys();
        x.build(2, 3);
        Due.is("22: none yet", x.stroke(0, 0), BlanketKeys.NONE);
        Due.is("22: what comes first", x.stroke(0, 6), BlanketKeys.BAD_VALUE);
        x.setShift(0, 0);
        x.setShift(1, 2);
        x.press(0, 0);
        x.press(1, 2);
        x.press(1, 1);
        x.tick(8);
        x.release(1, 1);
        x.tick(2);
        int[] told = {1, 0, 8, 1, 1, 3};
        for (int what = 0; what < told.length; what++) {
            Due.is("22: stroke(0, " + what + ")", x.stroke(0, what), told[what]);
        }
        Due.is("22: back 1", x.stroke(1, 0), BlanketKeys.NONE);
        Due.is("22: back -1", x.stroke(-1, 0), BlanketKeys.BAD_VALUE);
        Due.is("22: what 6", x.stroke(0, 6), BlanketKeys.BAD_VALUE);
        Due.is("22: what -1", x.stroke(0, -1), BlanketKeys.BAD_VALUE);
        Due.is("22: far back", x.stroke(Integer.MAX_VALUE, 0), BlanketKeys.NONE);
    }

    private static void dispute() {
        BlanketKeys x = new BlanketKeys();
        x.build(3, 3);
        x.set(0, WIDE);
        x.tick(1);
        strike(x, 1, 4, 6);
        int[] told = {4, 1, 6, BlanketKeys.NONE, 1};
        for (int what = 0; what < told.length; what++) {
            Due.is("23: dispute(0, " + what + ")", x.dispute(0, what), told[what]);
        }
        Due.is("23: what 5", x.dispute(0, 5), BlanketKeys.BAD_VALUE);
        Due.is("23: what -1", x.dispute(0, -1), BlanketKeys.BAD_VALUE);
        Due.is("23: dispute 1", x.dispute(1, 0), BlanketKeys.UNKNOWN);
        Due.is("23: dispute -1", x.dispute(-1, 9), BlanketKeys.UNKNOWN);
        x.settle(0, 0);
        Due.is("23: settled for 0", x.dispute(0, 3), 0);
    }

    /** A key that was seen while it was up has no true holder, in a dispute too. */
    private static void disputeOfNobody() {
        BlanketKeys x = new BlanketKeys();
        x.build(3, 3);
        x.set(0, WIDE);
        x.press(0, 0);
        x.press(0, 3);
        x.press(0, 7);
        x.press(0, 6);
        x.tick(1);
        Due.is("23: a ghost in the first row is not doubtful", x.key(1, 1) * 10 + x.key(1, 3), 10);
        x.release(0, 7);
        x.tick(3);
        Due.is("23: it ends as a dispute", x.dispute(0, 0), 1);
        Due.is("23: of nobody", x.dispute(0, 4), BlanketKeys.NONE);
        x.settle(0, 2);
        Due.is("27: a ghost of nobody", x.count(12), 1);
        x.undo();
        x.settle(0, 1);
        Due.is("27: credited to 1", x.count(7) * 10 + x.count(11), 10);
    }

    private static void distance() {
        BlanketKeys x = new BlanketKeys();
        x.build(2, 2);
        Due.is("24: from 0", x.distance(0, 0, 4), 0.0f);
        Due.is("24: dwell 0", x.distance(0, 0, 0), 1.0f);
        Due.is("24: from 1", x.distance(1, 5, 6), 0.25f);
        Due.is("24: dwell 9999", x.distance(1, 5, 9999), (9999.0f - 8.0f) / 8.0f);
        strike(x, 0, 0, 4);
        Due.is("24: with a gap", x.distance(0, 9, 6), 0.5f + 0.25f);
        Due.is("24: 1 has no gap", x.distance(1, 9, 6), 0.25f);
        float far = Integer.MAX_VALUE;
        Due.is("24: far since", x.distance(0, Integer.MAX_VALUE, 4), (far - 6.0f) / 6.0f * 0.5f);
        Due.isNoNumber("24: typist 2", x.distance(2, 0, 0));
        Due.isNoNumber("24: typist -1", x.distance(-1, 0, 0));
        Due.isNoNumber("24: since -1", x.distance(0, -1, 0));
        Due.isNoNumber("24: dwell -1", x.distance(0, 0, -1));
        Due.isNoNumber("24: dwell 10000", x.distance(0, 0, 10000));
        Due.isNoNumber("24: least since", x.distance(0, Integer.MIN_VALUE, 0));
        x.set(2, Float.floatToRawIntBits(0.3f));
        x.tick(1);
        strike(x, 0, 0, 4);
        x.tick(3);
        strike(x, 0, 0, 4);
        Due.is("24: last", x.typist(0, 7), 14);
        // the gaps 6 and 8
        float gap = 6.0f + (8.0f - 6.0f) * 0.3f;
        Due.is("19: mean gap", x.style(0, 1), gap);
        float part = (31.0f - gap) / gap;
        Due.is("24: uneven", x.distance(0, 45, 7), 0.75f + part * 0.5f);
    }

    private static void verdict() {
        BlanketKeys x = new BlanketKeys();
        x.build(2, 2);
        Due.is("25: not seen", x.verdict(0), BlanketKeys.NONE);
        Due.is("25: key 4", x.verdict(4), BlanketKeys.UNKNOWN);
        Due.is("25: key -1", x.verdict(-1), BlanketKeys.UNKNOWN);
        x.press(1, 0);
        Due.is("25: down, not seen", x.verdict(0), BlanketKeys.NONE);
        x.tick(1);
        // dwell 1: 0.75 and 0.875 differ by the margin
        Due.is("25: dwell 1", x.verdict(0), 0);
        x.tick(4);
        Due.is("25: dwell 5, whatever is down", x.verdict(0), 0);
        x.tick(1);
        Due.is("25: dwell 6", x.verdict(0), 1);
        x.set(0, WIDE);
        Due.is("25: a dispute", x.verdict(0), 3);
        Due.is("25: nothing changes", x.count(10), 0);
        x.setShift(0, 0);
        Due.is("25: a shift", x.verdict(0), 0);
        x.setShift(0, 1);
        x.setShift(1, 0);
        Due.is("25: the shift of 1", x.verdict(0), 1);
    }

    private static void ghostsBy() {
        BlanketKeys x = new BlanketKeys();
        x.build(2, 3);
        Due.is("26: key 6", x.ghostsBy(6), BlanketKeys.UNKNOWN);
        Due.is("26: key -1", x.ghostsBy(-1), BlanketKeys.UNKNOWN);
        Due.is("26: nothing down", x.ghostsBy(0), 100);
        x.press(0, 0);
        x.press(0, 1);
        x.press(0, 2);
        Due.is("26: it would make two", x.ghostsBy(3), 98);
        x.press(0, 3);
        Due.is("26: it makes two", x.ghostsBy(3), 102);
        // without 0, the keys 4 and 5 are no ghosts; 0 itself is not counted
        Due.is("26: the corner", x.ghostsBy(0), 102);
        Due.is("26: one column", x.ghostsBy(1), 101);
        Due.is("26: a ghost", x.ghostsBy(4), 100);
        x.press(1, 4);
        // 5 stays a ghost without 1, by the row 1; with it all is joined
        Due.is("26: joined twice", x.ghostsBy(1), 100);
        Due.is("26: column of one key", x.ghostsBy(2), 101);
        Due.is("26: nothing changed", x.key(2, 0), 0);
        Due.is("26: nor what is sensed", x.key(5, 6), 1);
        BlanketKeys y = new BlanketKeys();
        y.build(6, 8);
        // the rows 1 to 5 are joined to the column 0, the columns 1 to 5 to the row 0; only the key 0 joins the two
        for (int row = 1; row < 6; row++) {
            y.press(0, row * 8);
        }
        for (int column = 1; column < 6; column++) {
            y.press(1, column);
        }
        Due.is("26: it would make 25", y.ghostsBy(0), 75);
        y.release(0, 40);
        y.press(0, 0);
        Due.is("26: it makes 20", y.ghostsBy(0), 120);
        BlanketKeys z = new BlanketKeys();
        z.build(2, 2);
        z.press(0, 2);
        z.press(0, 3);
        z.press(1, 0);
        Due.is("26: a ghost in the row 0", z.ghostsBy(0), 101);
        Due.is("26: itself is not counted", z.ghostsBy(1), 100);
        z.release(1, 0);
        Due.is("26: it would make one there", z.ghostsBy(1), 99);
    }

    private static void count() {
        BlanketKeys x = new BlanketKeys();
        x.build(2, 3);
        x.set(1, 0);
        x.press(0, 0);
        x.press(0, 1);
        x.press(1, 3);
        x.tick(3);
        x.type('q');
        int[] told = {3, 2, 3, 3, 4, 2, 0, 0, 0, 0, 0, 0, 0, 1, 4, 1};
        for (int what = 0; what < told.length; what++) {
            Due.is("27: count(" + what + ")", x.count(what), told[what]);
        }
        x.release(1, 3);
        x.release(0, 0);
        x.release(0, 1);
        x.tick(6);
        // row 1 ends at 3: the keys 3 (held by 1) and 4 (by nobody), ghosts; row 0 at 4: the key 0, dwell 4, goes to 0;
        // the key 1 has the gap 0 from it then, and so is 0.5 from both
        int[] later = {9, 2, 3, 0, 0, 0, 4, 1, 2, 1, 1, 1, 1, 1, 4, 1};
        x.clearText();
        x.type('r');
        for (int what = 0; what < later.length; what++) {
            Due.is("27: later count(" + what + ")", x.count(what), later[what]);
        }
        x.settle(0, 1);
        Due.is("27: credited to both", x.count(7), 2);
        x.press(1, 0);
        x.tick(9);
        x.release(1, 0);
        x.tick(2);
        Due.is("27: three credited", x.count(7), 3);
        Due.is("27: rightly to both", x.count(11), 2);
        Due.is("27: rightly to 1", x.typist(1, 5), 1);
        Due.is("27: count(-1)", x.count(-1), BlanketKeys.BAD_VALUE);
        Due.is("27: count(16)", x.count(16), BlanketKeys.BAD_VALUE);
    }

    public static void main(String[] args) {
        key();
        typist();
        styles();
        typedByHand();
        typedMore();
        stroke();
        dispute();
        disputeOfNobody();
        distance();
        verdict();
        ghostsBy();
        count();
        Due.tell();
    }
}
