/** Promises 14 to 16: undo, keep, restore. */
public final class HistoryTest {
    private HistoryTest() {
    }

    private static void depth() {
        BlanketKeys x = new BlanketKeys();
        Due.is("14: empty", x.undo(), BlanketKeys.NONE);
        for (int i = 1; i <= 6; i++) {
            x.tick(1);
            Due.is("14: states after " + i, x.count(14), Math.min(i, 4));
        }
        for (int i = 3; i >= 0; i--) {
            Due.is("14: states left", x.undo(), i);
            Due.is("14: number of the tick", x.count(0), i + 2);
        }
        Due.is("14: no more", x.undo(), BlanketKeys.NONE);
        Due.is("14: the oldest were dropped", x.count(0), 2);
        x.tick(5);
        Due.is("14: recorded anew", x.count(14), 1);
        Due.is("14: left", x.undo(), 0);
        Due.is("14: before", x.count(0), 2);
    }

    /** Each act is taken back alone, and all that it changed. */
    private static void eachAct() {
        BlanketKeys x = new BlanketKeys();
        x.build(2, 3);
        x.undo();
        Due.is("14: build", x.count(1) * 10 + x.count(2), 46);
        x.setSign(2, 'c');
        x.undo();
        Due.is("14: setSign", x.key(2, 4), '.');
        x.setSign(2, 'c');
        x.setShift(0, 2);
        x.undo();
        Due.is("14: setShift", x.typist(0, 1), BlanketKeys.NONE);
        Due.is("14: the sign is back", x.key(2, 4), 'c');
        x.borrow(1, true);
        x.undo();
        Due.is("14: borrow", x.typist(1, 3), 0);
        x.set(0, Float.floatToRawIntBits(2.0f));
        x.set(1, Float.floatToRawIntBits(3.0f));
        x.set(2, Float.floatToRawIntBits(1.0f));
        x.undo();
        x.undo();
        x.undo();
        Due.is("14: set margin", x.set(0, 0), Float.floatToRawIntBits(0.125f));
        Due.is("14: set trust", x.set(1, 0), Float.floatToRawIntBits(0.5f));
        Due.is("14: set rate", x.set(2, 0), Float.floatToRawIntBits(0.25f));
        x.press(1, 2);
        x.undo();
        Due.is("14: press", x.key(2, 0), BlanketKeys.NONE);
        Due.is("14: press, sensed", x.key(2, 6), 0);
        x.press(1, 2);
        x.release(1, 2);
        x.undo();
        Due.is("14: release", x.key(2, 0), 1);
        Due.is("14: release, sensed", x.key(2, 6), 1);
    }

    /** The settings count, not only their bits. */
    private static void settingsCome() {
        BlanketKeys x = new BlanketKeys();
        x.set(0, Float.floatToRawIntBits(2.0f));
        x.set(2, Float.floatToRawIntBits(1.0f));
        x.undo();
        x.undo();
        x.press(0, 0);
        x.tick(8);
        x.release(0, 0);
        x.tick(1);
        Due.is("14: margin as it was", x.stroke(0, 3), 1);
        Due.is("14: rate as it was", x.style(1, 0), 8.0f);
        x.press(0, 1);
        x.tick(15);
        x.release(0, 1);
        x.tick(1);
        Due.is("14: learned at 0.25", x.style(1, 0), 8.0f + (12.0f - 8.0f) * 0.25f);
        BlanketKeys y = new BlanketKeys();
        y.build(2, 2);
        y.set(1, 0);
        y.undo();
        y.press(0, 0);
        y.press(0, 1);
        y.press(0, 2);
        y.tick(2);
        y.tick(4);
        Due.is("14: dwell 5", y.verdict(2), 0);
        // 6 is 0.5 off 4, and 0.25 off 8; 4 at the end of the trust, 12 off 8
        y.tick(6);
        Due.is("14: dwell 11 is 0.375 off 8, within the trust as it was", y.verdict(2), 1);
    }

    private static void tickUndone() {
        BlanketKeys x = new BlanketKeys();
        x.setSign(0, 'a');
        x.press(0, 0);
        x.tick(4);
        x.release(0, 0);
        x.tick(4);
        Due.is("14: typed", x.typed(0, 0), 'a');
        Due.is("14: undo", x.undo(), 3);
        Due.is("14: tick", x.count(0), 4);
        Due.is("14: seen again", x.key(0, 1), 1);
        Due.is("14: since", x.key(0, 2), 0);
        Due.is("14: no stroke", x.stroke(0, 0), BlanketKeys.NONE);
        Due.is("14: not typed", x.typed(0, 0), BlanketKeys.NONE);
        Due.is("14: not credited", x.typist(0, 4) + x.typist(0, 5) + x.count(7) + x.count(11), 0);
        Due.is("14: no last", x.typist(0, 7), BlanketKeys.NONE);
        x.tick(4);
        Due.is("14: ends again", x.stroke(0, 0), 0);
        Due.is("14: its true holder was kept", x.stroke(0, 4), 0);
        Due.is("14: typed again", x.typed(0, 0), 'a');
    }

    private static void doubtsUndone() {
        BlanketKeys x = new BlanketKeys();
        x.build(2, 2);
        x.set(1, 0);
        x.press(0, 0);
        x.press(0, 1);
        x.press(0, 2);
        x.tick(2);
        x.release(0, 2);
        x.tick(2);
        Due.is("14: two ghosts", x.count(8), 2);
        Due.is("14: one of nobody", x.count(12), 1);
        x.undo();
        Due.is("14: no ghosts", x.count(8) + x.count(12), 0);
        Due.is("14: the doubts are back", x.count(5), 2);
        x.tick(2);
        Due.is("14: ghosts again", x.count(8), 2);
        Due.is("14: of nobody again", x.count(12), 1);
    }

    private static void disputesUndone() {
        BlanketKeys x = new BlanketKeys();
        x.set(0, Float.floatToRawIntBits(2.0f));
        x.press(0, 0);
        x.tick(4);
        x.release(0, 0);
        x.tick(1);
        x.settle(0, 1);
        Due.is("14: settled", x.count(9), 0);
        x.undo();
        Due.is("14: open", x.count(9), 1);
        Due.is("14: told so", x.dispute(0, 3), BlanketKeys.NONE);
        Due.is("14: style is back", x.style(1, 0), 8.0f);
        Due.is("14: settle for another", x.settle(0, 0), 0);
        Due.is("14: right this time", x.typist(0, 5), 1);
        x.undo();
        x.undo();
        Due.is("14: there has been none", x.count(10), 0);
        Due.is("14: no dispute", x.dispute(0, 0), BlanketKeys.UNKNOWN);
    }

    /** What had been written over in the same places comes back: keys that are seen, strokes, signs, styles. */
    private static void writtenOver() {
        BlanketKeys x = new BlanketKeys();
        x.build(2, 3);
        x.set(0, Float.floatToRawIntBits(2.0f));
        x.setShift(1, 3);
        x.setSign(1, 'a');
        x.press(1, 3);
        x.tick(2);
        x.press(0, 1);
        x.tick(2);
        x.keep();
        x.release(0, 1);
        x.tick(2);
        Due.is("16: dispute of 1", x.dispute(0, 0), 1);
        x.release(1, 3);
        x.tick(2);
        x.setSign(2, 'b');
        x.press(1, 1);
        x.tick(4);
        x.restore();
        Due.is("16: since", x.key(1, 2), 2);
        x.release(0, 1);
        x.tick(2);
        Due.is("16: noted", x.stroke(0, 5), 2);
        Due.is("16: true holder", x.stroke(0, 4), 0);
        Due.is("16: dwell", x.stroke(0, 2), 2);
        x.keep();
        x.restore();
        x.restore();
        x.settle(0, 2);
        x.release(1, 3);
        x.tick(1);
        x.restore();
        int[] told = {1, 2, 2, BlanketKeys.NONE, 0};
        for (int what = 0; what < told.length; what++) {
            Due.is("16: dispute(0, " + what + ")", x.dispute(0, what), told[what]);
        }
        x.settle(0, 1);
        Due.is("16: in the stroke", x.stroke(0, 3), 1);
        Due.is("16: capital, as noted", x.typed(1, 0), 'A');
        x.keep();
        x.setSign(1, 'z');
        x.press(0, 1);
        x.tick(2);
        x.release(0, 1);
        x.tick(2);
        x.settle(1, 1);
        Due.is("16: another sign", x.typed(1, 0), 'Z');
        Due.is("16: another gap", x.style(1, 1), 10.0f + (4.0f - 10.0f) * 0.25f);
        x.restore();
        Due.is("16: signs", x.typed(1, 0), 'A');
        Due.is("16: mean gap", x.style(1, 1), 10.0f);
        Due.is("16: disputes", x.dispute(1, 0), BlanketKeys.UNKNOWN);
    }

    /** The rows of strokes come back when later strokes stood in the same places. */
    private static void manyStrokes() {
        BlanketKeys x = new BlanketKeys();
        x.build(2, 3);
        x.set(0, Float.floatToRawIntBits(2.0f));
        x.setShift(0, 3);
        x.setShift(1, 4);
        x.press(0, 0);
        x.tick(2);
        x.release(0, 0);
        x.tick(2);
        x.keep();
        x.restore();
        x.undo();
        x.undo();
        Due.is("14: still seen", x.key(0, 1), 1);
        x.press(1, 4);
        x.tick(4);
        x.press(1, 1);
        x.tick(2);
        x.release(1, 1);
        x.tick(2);
        Due.is("14: another stroke", x.stroke(0, 0), 1);
        x.restore();
        int[] told = {0, 0, 2, 3, 0, 0};
        for (int what = 0; what < told.length; what++) {
            Due.is("16: stroke(0, " + what + ")", x.stroke(0, what), told[what]);
        }
        Due.is("16: no other", x.stroke(1, 0), BlanketKeys.NONE);
        Due.is("16: settle", x.settle(0, 1), 0);
        Due.is("16: told in its stroke", x.stroke(0, 3), 1);
    }

    /** A dispute that is not of the first stroke finds its stroke again after undo. */
    private static void disputeFindsItsStroke() {
        BlanketKeys x = new BlanketKeys();
        x.build(2, 3);
        x.press(0, 0);
        x.tick(4);
        x.release(0, 0);
        x.tick(2);
        x.set(0, Float.floatToRawIntBits(2.0f));
        x.press(0, 1);
        x.tick(4);
        x.release(0, 1);
        x.tick(2);
        x.settle(0, 2);
        Due.is("10: the second stroke", x.stroke(0, 3), 2);
        Due.is("10: not the first", x.stroke(1, 3), 0);
        x.undo();
        x.keep();
        x.restore();
        x.settle(0, 1);
        Due.is("14: the second stroke", x.stroke(0, 3), 1);
        Due.is("14: not the first", x.stroke(1, 3), 0);
    }

    private static void write(BlanketKeys x, String text) {
        x.clearText();
        for (int i = 0; i < text.length(); i++) {
            x.type(text.charAt(i));
        }
    }

    /** The same after another dispute, of another stroke, had its number. */
    private static void disputeOfAnotherPast() {
        BlanketKeys x = new BlanketKeys();
        x.build(2, 3);
        x.set(0, Float.floatToRawIntBits(2.0f));
        x.setShift(0, 3);
        write(x, "1d3;t2;1u3;t2;0d0;t2;0u0;t2");
        Due.is("13: a shift and a dispute", x.perform(), 2);
        x.keep();
        x.undo();
        write(x, "0d0;t2;0u0;t2");
        Due.is("13: a dispute alone", x.perform(), 1);
        x.restore();
        x.settle(0, 1);
        Due.is("16: the second stroke", x.stroke(0, 3), 1);
        Due.is("16: not the shift", x.stroke(1, 3), 0);
    }

    private static void snapshot() {
        BlanketKeys x = new BlanketKeys();
        Due.is("16: no snapshot", x.restore(), BlanketKeys.NONE);
        Due.is("16: nothing recorded", x.count(14), 0);
        x.tick(7);
        x.setSign(4, 'd');
        Due.is("15: keep", x.keep(), 7);
        Due.is("15: no act", x.count(14), 2);
        x.setSign(4, 'e');
        x.tick(10);
        x.type('t');
        Due.is("16: restore", x.restore(), 7);
        Due.is("16: sign", x.key(4, 4), 'd');
        Due.is("16: an act", x.count(14), 4);
        Due.is("16: text stays", x.count(15), 1);
        x.setSign(4, 'f');
        Due.is("16: the snapshot stays", x.restore(), 7);
        Due.is("16: as it was", x.key(4, 4), 'd');
        Due.is("14: undo of restore", x.undo(), 3);
        Due.is("14: sign before", x.key(4, 4), 'f');
        x.undo();
        x.undo();
        Due.is("14: before the first restore", x.count(0), 17);
        Due.is("14: its sign", x.key(4, 4), 'e');
        Due.is("15: keep anew", x.keep(), 17);
        x.undo();
        Due.is("16: undo leaves the snapshot", x.restore(), 17);
        Due.is("16: in place of the first", x.key(4, 4), 'e');
        Due.is("16: of the same state too", x.restore(), 17);
    }

    private static void snapshotOfHands() {
        BlanketKeys x = new BlanketKeys();
        x.press(0, 1);
        x.tick(1);
        x.keep();
        x.release(0, 1);
        x.build(2, 2);
        x.tick(8);
        x.build(2, 2);
        Due.is("16: built", x.count(1), 2);
        Due.is("16: restore", x.restore(), 1);
        Due.is("16: rows", x.count(1), 4);
        Due.is("16: columns", x.count(2), 6);
        Due.is("16: down", x.key(1, 0), 0);
        Due.is("16: seen", x.key(1, 1), 1);
    }

    public static void main(String[] args) {
        depth();
        eachAct();
        settingsCome();
        tickUndone();
        doubtsUndone();
        disputesUndone();
        writtenOver();
        manyStrokes();
        disputeFindsItsStroke();
        disputeOfAnotherPast();
        snapshot();
        snapshotOfHands();
        Due.tell();
    }
}
