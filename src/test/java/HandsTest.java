/** Promises 7 to 10: press, release, tick, settle, with what "Sensing", "Styles" and "Credit" say of them. */
public final class HandsTest {
    private static final int WIDE = Float.floatToRawIntBits(2.0f);

    private HandsTest() {
    }

    /** Lets the stroke of a key have this dwell, if its row is driven next and again after that many ticks. */
    private static void strike(BlanketKeys x, int typist, int key, int dwell) {
        x.press(typist, key);
        x.tick(dwell);
        x.release(typist, key);
        x.tick(1);
    }

    private static void press() {
        BlanketKeys x = new BlanketKeys();
        Due.is("7: typist -1", x.press(-1, 0), BlanketKeys.UNKNOWN);
        Due.is("7: typist 2", x.press(2, 0), BlanketKeys.UNKNOWN);
        Due.is("7: key -1", x.press(0, -1), BlanketKeys.UNKNOWN);
        Due.is("7: key 24", x.press(0, 24), BlanketKeys.UNKNOWN);
        Due.is("7: nothing recorded", x.count(14), 0);
        for (int i = 1; i <= 5; i++) {
            Due.is("7: key " + i, x.press(0, 4 * i), i);
        }
        Due.is("7: down, by itself, and full", x.press(0, 4), BlanketKeys.NOT_POSSIBLE);
        Due.is("7: full", x.press(0, 23), BlanketKeys.FULL);
        Due.is("7: unknown, and full", x.press(0, 24), BlanketKeys.UNKNOWN);
        Due.is("7: down, by the other", x.press(1, 4), BlanketKeys.NOT_POSSIBLE);
        Due.is("7: the other has room", x.press(1, 23), 1);
        Due.is("7: held by 1", x.key(23, 0), 1);
        Due.is("7: held by 0", x.key(4, 0), 0);
        Due.is("7: keys down", x.count(3), 6);
        Due.is("7: recorded", x.count(14), 4);
    }

    private static void release() {
        BlanketKeys x = new BlanketKeys();
        x.press(0, 3);
        x.press(0, 9);
        x.press(1, 5);
        Due.is("8: typist -1", x.release(-1, 3), BlanketKeys.UNKNOWN);
        Due.is("8: typist 2", x.release(2, 3), BlanketKeys.UNKNOWN);
        Due.is("8: key -1", x.release(0, -1), BlanketKeys.UNKNOWN);
        Due.is("8: key 24", x.release(0, 24), BlanketKeys.UNKNOWN);
        Due.is("8: held by the other", x.release(1, 3), BlanketKeys.NOT_POSSIBLE);
        Due.is("8: up", x.release(0, 0), BlanketKeys.NOT_POSSIBLE);
        Due.is("8: nothing recorded", x.count(14), 3);
        Due.is("8: one", x.release(0, 3), 1);
        Due.is("8: recorded", x.count(14), 4);
        Due.is("8: up now", x.key(3, 0), BlanketKeys.NONE);
        Due.is("8: again", x.release(0, 3), BlanketKeys.NOT_POSSIBLE);
        Due.is("8: the other's", x.release(1, 5), 0);
        Due.is("8: the last", x.release(0, 9), 0);
        Due.is("8: not sensed any more", x.key(3, 6), 0);
    }

    private static void tickRange() {
        BlanketKeys x = new BlanketKeys();
        Due.is("9: tick(0)", x.tick(0), BlanketKeys.BAD_VALUE);
        Due.is("9: tick(-1)", x.tick(-1), BlanketKeys.BAD_VALUE);
        Due.is("9: tick(100)", x.tick(100), BlanketKeys.BAD_VALUE);
        Due.is("9: nothing passes", x.count(0), 0);
        Due.is("9: nothing recorded", x.count(14), 0);
        Due.is("9: tick(1)", x.tick(1), 0);
        Due.is("9: tick(99)", x.tick(99), 0);
        Due.is("9: number", x.count(0), 100);
        Due.is("9: row", x.count(13), 0);
        Due.is("9: recorded", x.count(14), 2);
    }

    private static void rowByRow() {
        BlanketKeys x = new BlanketKeys();
        x.build(3, 2);
        x.press(0, 4);
        x.tick(2);
        Due.is("9: row 2 not driven yet", x.key(4, 1), 0);
        Due.is("9: but it would be sensed", x.key(4, 6), 1);
        x.tick(1);
        Due.is("9: seen", x.key(4, 1), 1);
        Due.is("9: since", x.key(4, 2), 2);
        x.release(0, 4);
        Due.is("9: still seen", x.tick(2), 0);
        Due.is("9: ends", x.tick(1), 1);
        Due.is("9: no more", x.key(4, 1), 0);
        Due.is("9: no since", x.key(4, 2), BlanketKeys.NONE);
        Due.is("9: dwell", x.stroke(0, 2), 3);
        Due.is("9: pressed and released between", x.press(1, 0) + x.release(1, 0) + x.tick(6), 1);
        Due.is("9: no stroke of it", x.count(6), 1);
    }

    /** Three keys join the row 0 to the column 2 over the column 0 and the row 2; the row 1 has nothing to do with it. */
    private static void longWays() {
        BlanketKeys x = new BlanketKeys();
        x.build(3, 3);
        x.press(0, 0);
        x.press(0, 6);
        x.press(0, 8);
        Due.is("9: ghost over three keys", x.key(2, 6), 1);
        Due.is("9: column 1 is not joined", x.key(1, 6), 0);
        Due.is("9: row 1 is not joined", x.key(3, 6), 0);
        x.tick(3);
        Due.is("9: ghost is seen", x.key(2, 1), 1);
        Due.is("9: seen in all", x.count(4), 4);
        BlanketKeys y = new BlanketKeys();
        y.build(4, 4);
        // row 0 - column 3 - row 2 - column 1 - row 1 - column 2 - row 3 - column 0
        y.press(0, 3);
        y.press(0, 11);
        y.press(0, 9);
        y.press(0, 5);
        y.press(1, 6);
        y.press(1, 14);
        y.press(1, 12);
        Due.is("9: the longest way", y.key(0, 6), 1);
        y.release(0, 9);
        Due.is("9: the way is cut", y.key(0, 6), 0);
        Due.is("9: on this side", y.key(11, 6), 1);
        Due.is("9: on the other side", y.key(4, 6), 1);
    }

    private static void doubts() {
        BlanketKeys x = new BlanketKeys();
        x.build(2, 3);
        x.press(0, 0);
        x.press(0, 1);
        x.press(1, 3);
        x.tick(1);
        Due.is("9: no doubt in the first row", x.count(5), 0);
        x.tick(1);
        Due.is("9: corner closed by a ghost", x.key(4, 3), 1);
        Due.is("9: the true corner is doubtful too", x.key(3, 3), 1);
        Due.is("9: first row stays sure", x.key(0, 3) + x.key(1, 3), 0);
        Due.is("9: doubtful keys", x.count(5), 2);
        x.release(0, 1);
        x.tick(1);
        Due.is("9: the corner is gone", x.key(1, 1), 0);
        Due.is("9: yet the doubt stays", x.key(3, 3), 1);
        x.tick(1);
        Due.is("9: the ghost ends", x.key(4, 1), 0);
        Due.is("9: its doubt ends", x.key(4, 3), 0);
        Due.is("9: the other's stays", x.key(3, 3), 1);
        x.release(1, 3);
        x.tick(2);
        x.press(1, 3);
        x.tick(2);
        Due.is("9: seen again", x.key(3, 1), 1);
        Due.is("9: without a doubt", x.key(3, 3), 0);
    }

    private static void noDoubtWithoutCorners() {
        BlanketKeys x = new BlanketKeys();
        x.build(3, 3);
        x.press(0, 0);
        x.press(0, 3);
        x.press(0, 6);
        x.press(1, 1);
        x.release(0, 3);
        x.release(0, 6);
        x.tick(1);
        x.press(0, 5);
        x.tick(2);
        Due.is("9: three keys in other columns", x.count(5), 0);
        Due.is("9: seen", x.count(4), 3);
        x.press(0, 7);
        x.press(0, 8);
        x.tick(3);
        Due.is("9: corners over two rows", x.count(5) > 0 ? 1 : 0, 1);
    }

    /** Keys that became seen in one tick close corners for one another. */
    private static void doubtsOfOneTick() {
        BlanketKeys x = new BlanketKeys();
        x.build(2, 2);
        x.press(0, 2);
        x.press(0, 3);
        x.tick(2);
        x.press(1, 0);
        x.press(1, 1);
        x.tick(1);
        Due.is("9: 0 is doubtful", x.key(0, 3), 1);
        Due.is("9: 1 is doubtful", x.key(1, 3), 1);
        Due.is("9: 2 is not", x.key(2, 3), 0);
    }

    /** A key that ends in a tick closes no corner for one that becomes seen in it. */
    private static void endsComeBeforeDoubts() {
        BlanketKeys x = new BlanketKeys();
        x.build(2, 2);
        x.press(0, 0);
        x.press(0, 2);
        x.press(0, 3);
        x.release(0, 0);
        x.tick(2);
        x.press(0, 0);
        x.release(0, 2);
        x.release(0, 3);
        x.tick(1);
        Due.is("9: only 0 of its row", x.key(0, 3) + x.key(1, 1), 0);
        x.press(1, 1);
        x.tick(1);
        Due.is("9: both of row 1 end", x.count(6), 2);
        x.tick(1);
        Due.is("9: 1 is seen", x.key(1, 1), 1);
        Due.is("9: and sure", x.key(1, 3), 0);
    }

    /** A key that is seen still, but up, is no corner of others beside it. */
    private static void threeKeysAreNoCorners() {
        BlanketKeys x = new BlanketKeys();
        x.build(2, 3);
        x.press(0, 0);
        x.press(0, 1);
        x.tick(1);
        x.release(0, 1);
        x.press(1, 4);
        x.press(1, 5);
        x.tick(1);
        Due.is("9: seen", x.count(4), 4);
        Due.is("9: but no four corners", x.count(5), 0);
    }

    /** What was noted as a key became seen is not noted anew when another key of its row does. */
    private static void notedOnce() {
        BlanketKeys x = new BlanketKeys();
        x.build(2, 3);
        x.setShift(1, 5);
        x.press(0, 0);
        x.press(1, 5);
        x.tick(2);
        x.release(0, 0);
        x.press(1, 0);
        x.press(0, 1);
        x.tick(2);
        x.release(1, 0);
        x.release(0, 1);
        x.tick(2);
        Due.is("9: the later key", x.stroke(0, 0), 1);
        Due.is("9: with the shift", x.stroke(0, 5), 2);
        Due.is("9: the earlier key", x.stroke(1, 0), 0);
        Due.is("9: without", x.stroke(1, 5), 0);
        Due.is("9: the first who held it", x.stroke(1, 4), 0);
    }

    private static void orderOfEnds() {
        BlanketKeys x = new BlanketKeys();
        x.press(0, 5);
        x.press(1, 2);
        x.press(1, 3);
        x.tick(4);
        x.release(0, 5);
        x.release(1, 3);
        x.release(1, 2);
        Due.is("9: three end", x.tick(4), 3);
        Due.is("9: first", x.stroke(2, 0), 2);
        Due.is("9: second", x.stroke(1, 0), 3);
        Due.is("9: third", x.stroke(0, 0), 5);
    }

    private static void trueHolders() {
        BlanketKeys x = new BlanketKeys();
        x.build(2, 2);
        x.set(1, 0);
        x.press(0, 0);
        x.tick(1);
        x.release(0, 0);
        x.press(1, 0);
        x.tick(3);
        x.release(1, 0);
        x.tick(1);
        Due.is("9: one stroke of two hands", x.count(6), 1);
        Due.is("9: true holder is the first hand", x.stroke(0, 4), 0);
        Due.is("9: credited to 0", x.stroke(0, 3), 0);
        Due.is("9: rightly", x.typist(0, 5), 1);
        Due.is("9: right in all", x.count(11), 1);
        BlanketKeys y = new BlanketKeys();
        y.build(2, 2);
        y.set(1, 0);
        y.press(0, 0);
        y.press(0, 1);
        y.press(0, 2);
        y.tick(2);
        y.press(1, 3);
        y.tick(5);
        y.release(1, 3);
        y.release(0, 2);
        y.tick(1);
        Due.is("9: it was seen before it was down", y.stroke(0, 0), 3);
        Due.is("9: so it has no true holder", y.stroke(0, 4), BlanketKeys.NONE);
        Due.is("9: ghost", y.stroke(0, 3), 2);
        Due.is("9: 2 is a ghost too", y.stroke(1, 3), 2);
        Due.is("9: ghosts", y.count(8), 2);
        Due.is("9: without a true holder", y.count(12), 1);
    }

    private static void wrongCredit() {
        BlanketKeys x = new BlanketKeys();
        strike(x, 1, 0, 4);
        Due.is("9: a short stroke of 1 goes to 0", x.stroke(0, 3), 0);
        Due.is("9: true holder", x.stroke(0, 4), 1);
        Due.is("9: credited", x.typist(0, 4), 1);
        Due.is("9: not rightly", x.typist(0, 5), 0);
        Due.is("9: nothing for 1", x.typist(1, 4) + x.typist(1, 5), 0);
        Due.is("9: credited in all", x.count(7), 1);
        Due.is("9: rightly in all", x.count(11), 0);
    }

    private static void marginEdge() {
        BlanketKeys x = new BlanketKeys();
        x.build(5, 2);
        strike(x, 0, 0, 5);
        Due.is("9: 0.25 and 0.375 differ by the margin", x.stroke(0, 3), 0);
        BlanketKeys y = new BlanketKeys();
        y.build(5, 2);
        y.set(0, Float.floatToRawIntBits(0.125f) + 1);
        strike(y, 0, 0, 5);
        Due.is("9: by less than the margin", y.stroke(0, 3), 3);
        Due.is("9: open", y.count(9), 1);
        BlanketKeys z = new BlanketKeys();
        z.build(6, 2);
        strike(z, 0, 0, 6);
        Due.is("9: 0.5 and 0.25", z.stroke(0, 3), 1);
    }

    /** The same distance comes by the same means: both learn the same strokes, at the rate 1. */
    private static void sameDistanceGoesToFirst() {
        BlanketKeys x = new BlanketKeys();
        x.build(2, 2);
        x.set(0, WIDE);
        x.set(2, Float.floatToRawIntBits(1.0f));
        for (int i = 0; i < 2; i++) {
            x.press(0, 0);
            x.press(0, 1);
            x.tick(8);
            x.release(0, 0);
            x.release(0, 1);
            x.tick(2);
            x.settle(2 * i, 0);
            x.settle(2 * i + 1, 1);
        }
        Due.is("9: alike dwell", x.style(0, 0), x.style(1, 0));
        Due.is("9: alike gap", x.style(0, 1), x.style(1, 1));
        x.set(0, 0);
        x.press(1, 0);
        x.tick(6);
        Due.is("9: alike distance", x.distance(0, 20, 6), x.distance(1, 20, 6));
        Due.is("25: the same goes to 0", x.verdict(0), 0);
        x.release(1, 0);
        x.tick(2);
        Due.is("9: the same goes to 0", x.stroke(0, 3), 0);
    }

    private static void trust() {
        BlanketKeys x = new BlanketKeys();
        x.build(2, 2);
        x.press(0, 0);
        x.press(0, 1);
        x.press(0, 2);
        x.tick(2);
        Due.is("9: doubtful", x.count(5), 2);
        x.tick(2);
        // dwell 3 in the tick that comes: 0.25 off the mean of 0
        Due.is("9: near 0", x.verdict(2), 0);
        x.set(1, Float.floatToRawIntBits(0.25f) - 1);
        Due.is("9: dwell 3 is beyond the trust", x.verdict(2), 2);
        x.set(1, Float.floatToRawIntBits(0.25f));
        Due.is("9: dwell 3 is just within the trust", x.verdict(2), 0);
        x.set(0, WIDE);
        Due.is("9: no margin for the doubtful", x.verdict(2), 0);
        x.release(0, 2);
        x.tick(2);
        Due.is("9: both end", x.count(6), 2);
        Due.is("9: no dispute of them", x.count(10), 0);
    }

    /** Two strokes of one tick have the gap 0 between them. */
    private static void leastMeans() {
        BlanketKeys x = new BlanketKeys();
        x.build(4, 3);
        x.set(2, Float.floatToRawIntBits(1.0f));
        x.press(0, 0);
        x.press(0, 1);
        x.tick(4);
        x.release(0, 0);
        x.release(0, 1);
        x.tick(1);
        Due.is("9: first goes to 0", x.stroke(1, 3), 0);
        Due.is("9: gap 0 is 0.5 off", x.distance(0, 0, 4), 0.5f);
        Due.is("9: second is a tie of 0.5, within the margin", x.stroke(0, 3), 3);
        x.settle(0, 0);
        Due.is("9: mean gap at least 0.5", x.style(0, 1), 0.5f);
        Due.is("9: in hundredths", x.hundredths(0, 1), 50);
        Due.is("9: mean dwell", x.style(0, 0), 4.0f);
        // 6.0f + (0 - 6.0f) * 0.9375f would be 0.375f
        BlanketKeys y = new BlanketKeys();
        y.build(4, 3);
        y.set(0, WIDE);
        y.set(2, Float.floatToRawIntBits(0.9375f));
        y.press(0, 0);
        y.press(0, 1);
        y.tick(4);
        y.release(0, 0);
        y.release(0, 1);
        y.tick(1);
        y.settle(0, 0);
        y.settle(1, 0);
        Due.is("10: mean gap at least 0.5", y.style(0, 1), 0.5f);
    }

    /** A key that was seen earlier than the last one, and is credited later, has a gap too. */
    private static void gapBackwards() {
        BlanketKeys x = new BlanketKeys();
        x.build(2, 4);
        x.set(0, WIDE);
        x.set(2, Float.floatToRawIntBits(1.0f));
        strike(x, 0, 0, 2);
        x.tick(15);
        strike(x, 0, 0, 2);
        Due.is("9: since of the second", x.dispute(1, 1), 18);
        x.settle(1, 0);
        Due.is("9: last", x.typist(0, 7), 18);
        x.settle(0, 0);
        Due.is("9: gap is 18 though it is backwards", x.style(0, 1), 18.0f);
        Due.is("9: last goes back", x.typist(0, 7), 0);
        Due.is("24: backwards", x.distance(0, 0, 2), 0.5f);
    }

    private static void learning() {
        BlanketKeys x = new BlanketKeys();
        x.build(3, 2);
        strike(x, 0, 0, 3);
        Due.is("9: mean dwell", x.style(0, 0), 4.0f + (3.0f - 4.0f) * 0.25f);
        Due.is("9: no gap yet", x.style(0, 1), 6.0f);
        Due.is("9: 1 learns nothing", x.style(1, 0), 8.0f);
        Due.is("9: last", x.typist(0, 7), 0);
        x.tick(5);
        strike(x, 0, 0, 3);
        Due.is("9: since", x.stroke(0, 1), 9);
        Due.is("9: mean gap", x.style(0, 1), 6.0f + (9.0f - 6.0f) * 0.25f);
        Due.is("9: last later", x.typist(0, 7), 9);
        Due.is("9: 1 has no last", x.typist(1, 7), BlanketKeys.NONE);
    }

    private static void shiftsAndSigns() {
        BlanketKeys x = new BlanketKeys();
        x.build(2, 4);
        x.setShift(0, 0);
        x.setShift(1, 4);
        x.setSign(1, 'a');
        x.setSign(2, 'b');
        x.setSign(5, 'e');
        x.press(1, 0);
        x.press(1, 1);
        x.tick(1);
        Due.is("9: shift of 0 is on", x.typist(0, 2), 1);
        Due.is("9: shift of 1 is not", x.typist(1, 2), 0);
        x.release(1, 1);
        x.tick(3);
        x.tick(1);
        Due.is("9: key of the same tick", x.stroke(0, 0), 1);
        Due.is("9: notes the shift of the same tick", x.stroke(0, 5), 1);
        Due.is("9: a capital", x.typed(0, 0), 'A');
        x.release(1, 0);
        x.tick(2);
        Due.is("9: the shift ends", x.stroke(0, 0), 0);
        Due.is("9: credited to its owner", x.stroke(0, 3), 0);
        Due.is("9: though held by the other", x.stroke(0, 4), 1);
        Due.is("9: a shift notes itself", x.stroke(0, 5), 1);
        Due.is("9: nobody learns, last", x.typist(0, 7), 0);
        Due.is("9: signs", x.typist(0, 6), 1);
        Due.is("9: credited", x.typist(0, 4), 2);
        Due.is("9: rightly", x.typist(0, 5), 0);
        x.press(0, 2);
        x.tick(4);
        x.release(0, 2);
        x.tick(3);
        Due.is("9: small again", x.typed(0, 0), 'b');
        Due.is("9: nothing noted", x.stroke(0, 5), 0);
    }

    private static void shiftLearnsNothing() {
        BlanketKeys x = new BlanketKeys();
        x.setShift(0, 0);
        strike(x, 0, 0, 12);
        Due.is("9: credited", x.stroke(0, 3), 0);
        Due.is("9: mean stays", x.style(0, 0), 4.0f);
        Due.is("9: no last", x.typist(0, 7), BlanketKeys.NONE);
        Due.is("9: no sign", x.typist(0, 6), 0);
        Due.is("9: rightly", x.typist(0, 5), 1);
        x.setShift(0, 1);
        x.setShift(1, 6);
        x.press(0, 6);
        x.tick(8);
        x.release(0, 6);
        x.tick(4);
        Due.is("9: shift of 1", x.stroke(0, 3), 1);
        Due.is("9: mean of 1 stays", x.style(1, 0), 8.0f);
    }

    private static void doubtfulShift() {
        BlanketKeys x = new BlanketKeys();
        x.build(2, 2);
        x.setShift(1, 3);
        x.set(1, Float.floatToRawIntBits(4.0f));
        x.press(0, 0);
        x.press(0, 1);
        x.press(0, 2);
        x.tick(2);
        Due.is("9: shift is seen", x.key(3, 1), 1);
        Due.is("9: but not on", x.typist(1, 2), 0);
        x.tick(4);
        Due.is("9: it would be a ghost", x.verdict(3), 2);
        Due.is("9: the other one not", x.verdict(2), 0);
        x.release(0, 2);
        x.tick(2);
        Due.is("9: shift is a ghost", x.stroke(0, 3), 2);
        Due.is("9: it notes nothing", x.stroke(0, 5), 0);
        Due.is("9: without a true holder", x.count(12), 1);
    }

    /** The shift of the other one counts for those who borrow as the sign is typed. */
    private static void lentShift() {
        BlanketKeys x = new BlanketKeys();
        x.build(2, 3);
        x.setShift(1, 0);
        x.setSign(1, 'm');
        x.press(1, 0);
        x.press(0, 1);
        x.tick(4);
        x.release(0, 1);
        x.tick(1);
        Due.is("9: noted", x.stroke(0, 5), 2);
        Due.is("9: not lent", x.typed(0, 0), 'm');
        x.tick(1);
        x.press(0, 1);
        x.tick(4);
        x.borrow(0, true);
        x.release(0, 1);
        x.tick(1);
        Due.is("9: lent at last", x.typed(0, 0), 'M');
        x.tick(1);
        x.press(0, 1);
        x.tick(4);
        x.borrow(0, false);
        x.borrow(1, true);
        x.release(0, 1);
        x.tick(1);
        Due.is("9: lent to the wrong one", x.typed(0, 0), 'm');
        Due.is("9: typed", x.typist(0, 6), 3);
    }

    private static void settle() {
        BlanketKeys x = new BlanketKeys();
        x.set(0, WIDE);
        Due.is("10: no dispute", x.settle(0, 0), BlanketKeys.UNKNOWN);
        x.setSign(3, 'c');
        strike(x, 0, 3, 4);
        Due.is("10: dispute", x.dispute(0, 3), BlanketKeys.NONE);
        Due.is("10: nothing typed", x.typist(0, 6), 0);
        int before = x.count(14);
        Due.is("10: dispute -1", x.settle(-1, 0), BlanketKeys.UNKNOWN);
        Due.is("10: dispute 1", x.settle(1, 5), BlanketKeys.UNKNOWN);
        Due.is("10: who -1", x.settle(0, -1), BlanketKeys.BAD_VALUE);
        Due.is("10: who 3", x.settle(0, 3), BlanketKeys.BAD_VALUE);
        Due.is("10: nothing recorded", x.count(14), before);
        x.setSign(3, 'd');
        Due.is("10: for 1", x.settle(0, 1), 3);
        Due.is("10: for whom", x.dispute(0, 3), 1);
        Due.is("10: in the stroke", x.stroke(0, 3), 1);
        Due.is("10: not open", x.count(9), 0);
        Due.is("10: there has been one", x.count(10), 1);
        Due.is("10: the sign of now", x.typed(1, 0), 'd');
        Due.is("10: learned", x.style(1, 0), 8.0f + (4.0f - 8.0f) * 0.25f);
        Due.is("10: last", x.typist(1, 7), 0);
        Due.is("10: credited", x.typist(1, 4), 1);
        Due.is("10: not rightly", x.typist(1, 5), 0);
        Due.is("10: again", x.settle(0, 2), BlanketKeys.NOT_POSSIBLE);
        Due.is("10: bad, and settled", x.settle(0, 3), BlanketKeys.BAD_VALUE);
        x.tick(3);
        strike(x, 1, 4, 4);
        Due.is("10: for a ghost", x.settle(1, 2), 4);
        Due.is("10: ghosts", x.count(8), 1);
        Due.is("10: it has a true holder", x.count(12), 0);
        Due.is("10: stroke is a ghost", x.stroke(0, 3), 2);
        Due.is("10: told as such", x.dispute(1, 3), 2);
        x.tick(3);
        strike(x, 0, 4, 4);
        Due.is("10: for 0", x.settle(2, 0), 4);
        Due.is("10: rightly", x.typist(0, 5), 1);
    }

    /** The borrower, the sign and the key are those of the hour of settling. */
    private static void settleLater() {
        BlanketKeys x = new BlanketKeys();
        x.build(2, 3);
        x.set(0, WIDE);
        x.setShift(0, 0);
        x.setSign(2, 'k');
        x.press(0, 0);
        x.press(0, 2);
        x.tick(4);
        x.release(0, 2);
        x.tick(2);
        x.press(0, 2);
        x.tick(4);
        x.release(0, 2);
        x.tick(2);
        x.release(0, 0);
        x.tick(2);
        Due.is("10: two disputes", x.count(9), 2);
        x.borrow(1, true);
        x.settle(0, 1);
        Due.is("10: a capital by the borrowing of now", x.typed(1, 0), 'K');
        Due.is("10: build", x.build(2, 2), 4);
        x.setSign(2, 'n');
        Due.is("10: settle after build", x.settle(1, 0), 2);
        Due.is("10: the key of the new keyboard", x.typed(0, 0), 'N');
        BlanketKeys y = new BlanketKeys();
        y.set(0, WIDE);
        y.setSign(5, 'k');
        strike(y, 0, 5, 4);
        y.build(2, 2);
        Due.is("10: settle a key that is gone", y.settle(0, 0), 5);
        Due.is("10: no sign", y.typist(0, 6), 0);
        Due.is("10: credited", y.typist(0, 4), 1);
        Due.is("10: learned", y.typist(0, 7), 0);
        BlanketKeys z = new BlanketKeys();
        z.set(0, WIDE);
        z.setSign(5, 'k');
        strike(z, 0, 5, 8);
        z.setShift(1, 5);
        Due.is("10: settle a key that is a shift now", z.settle(0, 0), 5);
        Due.is("10: no sign of a shift", z.typist(0, 6), 0);
        Due.is("10: learned by hand", z.style(0, 0), 5.0f);
    }

    private static void twentyDisputes() {
        BlanketKeys x = new BlanketKeys();
        x.build(2, 2);
        x.set(0, WIDE);
        for (int i = 0; i < 20; i++) {
            strike(x, 0, i % 2, 2);
            x.tick(1);
            Due.is("9: dispute " + i, x.count(10), i + 1);
            Due.is("9: its key", x.dispute(i, 0), i % 2);
        }
        x.settle(7, 2);
        x.press(0, 0);
        x.tick(1);
        Due.is("25: in place of a 21st", x.verdict(0), 2);
        x.tick(1);
        x.release(0, 0);
        x.tick(2);
        Due.is("9: the 21st is a ghost", x.stroke(0, 3), 2);
        Due.is("9: 20 ever", x.count(10), 20);
        Due.is("9: open", x.count(9), 19);
        Due.is("9: ghosts", x.count(8), 2);
        Due.is("9: with a true holder", x.count(12), 0);
        Due.is("23: dispute 20", x.dispute(20, 0), BlanketKeys.UNKNOWN);
        Due.is("10: the first", x.settle(0, 0), 0);
        Due.is("10: the last", x.settle(19, 2), 1);
        Due.is("22: stroke before the latest", x.stroke(1, 3), 2);
        Due.is("10: settled", x.dispute(0, 3), 0);
        Due.is("22: the oldest known", x.stroke(15, 3), 3);
        Due.is("10: one that is forgotten", x.settle(1, 0), 1);
        Due.is("22: which changes no stroke that is known", x.stroke(0, 3) + x.stroke(1, 3) + x.stroke(2, 3), 7);
        x.undo();
        x.undo();
        Due.is("14: open again", x.dispute(19, 3), BlanketKeys.NONE);
        Due.is("14: in the stroke", x.stroke(1, 3), 3);
    }

    public static void main(String[] args) {
        press();
        release();
        tickRange();
        rowByRow();
        longWays();
        doubts();
        noDoubtWithoutCorners();
        doubtsOfOneTick();
        endsComeBeforeDoubts();
        threeKeysAreNoCorners();
        notedOnce();
        orderOfEnds();
        trueHolders();
        wrongCredit();
        marginEdge();
        sameDistanceGoesToFirst();
        trust();
        leastMeans();
        gapBackwards();
        learning();
        shiftsAndSigns();
        shiftLearnsNothing();
        doubtfulShift();
        lentShift();
        settle();
        settleLater();
        twentyDisputes();
        Due.tell();
    }
}
