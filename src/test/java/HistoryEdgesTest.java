/** Each sentence of "HISTORY" and of the promises 14 to 16 that names a boundary, on both of its sides. */
public final class HistoryEdgesTest {
    private HistoryEdgesTest() {
    }

    /** A state from which each act is possible: something is signed, down, seen, typed, in dispute and in the text. */
    private static void rich(Keys k) {
        k.set(0, Edge.bits(2.0f));
        k.setSign(0, 'a');
        k.setShift(1, 6);
        k.press(1, 6);
        k.tick(4);
        Edge.strike(k, 0, 0, 4);
        k.settle(0, 1);
        k.tick(3);
        Edge.strike(k, 1, 0, 4);
        k.tick(3);
        Edge.write(k, "0d1;t9;0u1;t9");
        k.press(0, 2);
        k.tick(4);
    }

    /** Calls that take back all states but some; they go on from one and the same state in the end. */
    private static Keys.Way withStates(int states) {
        return k -> {
            rich(k);
            for (int i = 4; i > states; i--) {
                k.undo();
            }
        };
    }

    /** "at most 4 states .. when one more is recorded, the oldest one is dropped." */
    private static void fourStates() {
        for (int acts = 0; acts <= 9; acts++) {
            int number = acts;
            Keys.Way way = k -> {
                for (int i = 0; i < number; i++) {
                    k.tick(i + 1);
                }
            };
            int kept = Math.min(acts, 4);
            Edge.tells("27: states after " + acts, way, k -> k.count(14), kept);
            Keys k = Edge.after(way);
            int back = acts;
            for (int left = kept - 1; left >= 0; left--) {
                back--;
                Due.is("14: states left of " + acts, k.undo(), left);
                Due.is("27: states told of " + acts, k.count(14), left);
                Due.is("14: the state before the act " + back, k.count(0), back * (back + 1) / 2);
            }
            Due.is("14: NONE if it is empty, of " + acts, k.undo(), Edge.NONE);
            Due.is("14: NONE again, of " + acts, k.undo(), Edge.NONE);
            Due.is("14: the tick stays, of " + acts, k.count(0), back * (back + 1) / 2);
        }
    }

    private static void emptyHistory() {
        Edge.refused("14: NONE at first", Edge.NEW, Keys::undo, Edge.NONE);
        Edge.refused("14: NONE after four", withStates(0), Keys::undo, Edge.NONE);
        Edge.refused("14: NONE, as what is no act is not recorded", k -> {
            k.type('t');
            k.keep();
            k.clearText();
            k.type('x');
            k.perform();
            k.undo();
            k.count(0);
        }, Keys::undo, Edge.NONE);
        Edge.tells("14: the last one", withStates(1), Keys::undo, 0);
        Edge.tells("14: of four", withStates(4), Keys::undo, 3);
    }

    /** "Each call of a method that is described as an act .. records the state": with no, three and four states before. */
    private static void eachAct() {
        int[] depths = {0, 3, 4};
        for (int depth : depths) {
            Keys.Way way = withStates(depth);
            String with = " with " + depth + " states";
            Edge.act("3: setSign" + with, way, k -> k.setSign(23, 'q'), '.');
            Edge.act("3: setSign of a shift" + with, way, k -> k.setSign(6, 'q'), '.');
            Edge.act("4: setShift" + with, way, k -> k.setShift(1, 0), 6);
            Edge.act("5: borrow" + with, way, k -> k.borrow(0, true), 1);
            for (int i = 0; i < 3; i++) {
                int what = i;
                int former = what == 0 ? Edge.bits(2.0f) : what == 1 ? Edge.bits(0.5f) : Edge.bits(0.25f);
                Edge.act("6: set " + what + with, way, k -> k.set(what, 0), former);
            }
            int held = Edge.after(way).typist(0, 0);
            Edge.act("7: press" + with, way, k -> k.press(0, 23), held + 1);
            Edge.act("8: release" + with, way, k -> k.release(1, 6), 0);
            Edge.act("9: tick" + with, way, k -> k.tick(50), Edge.after(way).tick(50));
            Edge.act("10: settle" + with, Whole.then(way, k -> k.tick(9)), k -> k.settle(1, 0), 0);
            Edge.act("13: perform" + with, way, Keys::perform, Edge.after(way).perform());
            Keys.Way kept = Whole.then(k -> {
                k.tick(7);
                k.keep();
            }, way);
            Edge.act("16: restore" + with, kept, Keys::restore, 7);
        }
        Keys.Way rest = k -> {
            k.setSign(3, 'c');
            k.setShift(0, 4);
            k.tick(5);
        };
        Edge.act("2: build with three states", rest, k -> k.build(6, 8), 48);
        Edge.act("2: build with four states", Whole.then(rest, k -> k.tick(1)), k -> k.build(2, 2), 4);
        Edge.act("2: build with no state", Edge.NEW, k -> k.build(2, 3), 6);
    }

    /** What is no act records nothing, whatever it does. */
    private static void noActs() {
        int[] depths = {0, 2, 4};
        for (int depth : depths) {
            Keys.Way way = withStates(depth);
            Edge.noAct("11: type", way, k -> k.type(';'), 14);
            Edge.noAct("12: clearText", way, Keys::clearText, 13);
            Edge.noAct("15: keep", way, Keys::keep, Edge.after(way).count(0));
            Keys.Way asked = Whole.then(way, HistoryEdgesTest::askAll);
            Due.same("17 to 27: what is told changes nothing", Whole.all(asked), Whole.all(way));
        }
    }

    private static void askAll(Keys k) {
        for (int i = -1; i <= 9; i++) {
            k.count(i);
            k.verdict(i);
            k.ghostsBy(i);
            k.key(i, 6);
            k.stroke(i, 0);
            k.dispute(i, 3);
            k.typed(0, i);
            k.typist(0, i);
        }
        k.style(0, 0);
        k.style(2, 0);
        k.hundredths(1, 1);
        k.distance(0, 5, 5);
        k.distance(1, -5, 5);
    }

    /** undo() removes the state: it is no act, and there is no way forth again. */
    private static void undoRemoves() {
        Keys.Way way = k -> {
            for (int i = 0; i < 3; i++) {
                k.setSign(0, (char) ('a' + i));
            }
        };
        Keys k = Edge.after(way);
        Due.is("14: first", k.undo(), 2);
        Due.is("14: the state before the last act", k.key(0, 4), 'b');
        Due.is("14: second", k.undo(), 1);
        Due.is("14: the state before that", k.key(0, 4), 'a');
        Due.is("3: another act from there", k.setSign(0, 'z'), 'a');
        Due.is("27: two states", k.count(14), 2);
        Due.is("14: back from it", k.undo(), 1);
        Due.is("14: not to what was undone", k.key(0, 4), 'a');
        Due.is("14: third", k.undo(), 0);
        Due.is("14: the first of all", k.key(0, 4), '.');
        Due.is("14: no more", k.undo(), Edge.NONE);
    }

    /** Full, emptied and filled again: the places of the states go round. */
    private static void roundAndRound() {
        Keys k = new RealKeys();
        int[] ticksBefore = new int[200];
        int depth = 0;
        int tick = 0;
        for (int i = 0; i < 60; i++) {
            int acts = i * 7 % 6;
            for (int j = 0; j < acts; j++) {
                ticksBefore[depth] = tick;
                depth++;
                k.tick(1 + i);
                tick += 1 + i;
            }
            int kept = Math.min(depth, 4);
            System.arraycopy(ticksBefore, depth - kept, ticksBefore, 0, kept);
            depth = kept;
            int undone = i * 5 % 4;
            for (int j = 0; j < undone; j++) {
                Due.is("14: round " + i, k.undo(), depth > 0 ? depth - 1 : Edge.NONE);
                if (depth > 0) {
                    depth--;
                    tick = ticksBefore[depth];
                }
                Due.is("14: tick of round " + i, k.count(0), tick);
            }
        }
    }

    /** "There is one snapshot, empty at first", and restore() answers "NONE if there is no snapshot." */
    private static void snapshot() {
        Edge.refused("16: NONE at first", Edge.NEW, Keys::restore, Edge.NONE);
        Edge.refused("16: NONE whatever there was", HistoryEdgesTest::rich, Keys::restore, Edge.NONE);
        Edge.tells("15: keep at the tick 0", Edge.NEW, Keys::keep, 0);
        Edge.act("16: restore of the tick 0, of the same state", Keys::keep, Keys::restore, 0);
        Edge.act("16: restore of the tick 0, of another", k -> {
            k.keep();
            rich(k);
        }, Keys::restore, 0);
        Edge.tells("15: keep later", k -> k.tick(99), Keys::keep, 99);
        Keys.Way two = k -> {
            k.tick(3);
            k.keep();
            k.tick(4);
            k.keep();
            k.tick(5);
        };
        Edge.act("16: in place of the one that was", two, Keys::restore, 7);
        Edge.act("16: which stays", Whole.then(two, Keys::restore), Keys::restore, 7);
        Edge.act("16: undo leaves it", Whole.then(Whole.then(two, Keys::restore), Keys::undo), Keys::restore, 7);
        Keys.Way undone = Whole.then(k -> {
            k.tick(3);
            k.tick(4);
            k.keep();
        }, Keys::undo);
        Edge.act("16: undo of what it holds leaves it", undone, Keys::restore, 7);
        Edge.tells("16: a call that is refused leaves it empty", k -> {
            k.tick(100);
            k.restore();
        }, Keys::restore, Edge.NONE);
    }

    /** All of the state comes back by restore(), and nothing of it changes in the snapshot. */
    private static void snapshotIsWhole() {
        Keys.Way kept = Whole.then(HistoryEdgesTest::rich, Keys::keep);
        Keys.Way[] laters = {Edge.NEW, HistoryEdgesTest::others, HistoryEdgesTest::anotherWay, k -> {
            others(k);
            k.restore();
            others(k);
        }, k -> {
            k.restore();
            k.undo();
            others(k);
            k.undo();
        }};
        for (int i = 0; i < laters.length; i++) {
            Keys.Way restored = Whole.then(Whole.then(kept, laters[i]), Keys::restore);
            Due.same("16: all is as it was, way " + i, Whole.state(restored), Whole.state(HistoryEdgesTest::rich));
            for (int j = 0; j <= 2; j++) {
                int who = j;
                Keys.Way settled = Whole.then(restored, k -> k.settle(1, who));
                Keys.Way due = Whole.then(HistoryEdgesTest::rich, k -> k.settle(1, who));
                Due.same("16: and the dispute, way " + i, Whole.state(settled), Whole.state(due));
            }
        }
    }

    /** Goes back before the second stroke, and makes others in its place: of other keys, hands and ticks, without a shift. */
    private static void anotherWay(Keys k) {
        for (int i = 0; i < 4; i++) {
            k.undo();
        }
        k.press(1, 0);
        k.release(1, 6);
        k.tick(9);
        for (int i = 0; i < 3; i++) {
            k.press(0, 5);
            k.tick(8);
            k.release(0, 5);
            k.tick(5);
        }
        k.settle(1, 0);
        k.release(1, 0);
        k.tick(4);
        others(k);
    }

    /** The settings come back as what they do, not only as what is told of them. */
    private static void settingsComeBack() {
        int[] told = {Edge.bits(0.125f), Edge.bits(0.5f), Edge.bits(0.25f)};
        // the margin 2 makes a dispute, the trust 0 a ghost, the rate 0 a style that stays
        int[] others = {Edge.bits(2.0f), 0, 0};
        for (int i = 0; i < 3; i++) {
            int what = i;
            Keys.Way changed = k -> k.set(what, others[what]);
            Keys.Way undone = Whole.then(changed, Keys::undo);
            Keys.Way restored = Whole.then(Keys::keep, Whole.then(changed, Keys::restore));
            Keys.Way changedAgain = Whole.then(changed, Whole.then(Keys::keep, k -> {
                k.set(what, told[what]);
                k.restore();
            }));
            Keys.Call[] shown = {HistoryEdgesTest::singleStroke, HistoryEdgesTest::doubtfulStroke, HistoryEdgesTest::learned};
            long first = shown[what].on(Edge.after(Edge.NEW));
            long other = shown[what].on(Edge.after(changed));
            Due.is("6: it shows, " + what, first != other ? 1 : 0, 1);
            Edge.tells("14: undo of set " + what, undone, shown[what], first);
            Edge.tells("16: restore of what was before set " + what, restored, shown[what], first);
            Edge.tells("16: restore of what was set, " + what, changedAgain, shown[what], other);
        }
    }

    private static long singleStroke(Keys k) {
        k.press(0, 0);
        k.tick(4);
        k.release(0, 0);
        k.tick(4);
        return k.stroke(0, 3);
    }

    private static long doubtfulStroke(Keys k) {
        k.build(2, 2);
        k.press(0, 0);
        k.press(0, 1);
        k.press(0, 2);
        k.tick(2);
        k.release(0, 2);
        k.tick(2);
        return k.stroke(1, 0) == 2 ? k.stroke(1, 3) : -1;
    }

    private static long learned(Keys k) {
        k.build(3, 2);
        Edge.strike(k, 0, 0, 3);
        return k.hundredths(0, 0);
    }

    /** Changes everything that a state has. */
    private static void others(Keys k) {
        k.release(1, 6);
        k.release(0, 2);
        k.tick(9);
        k.settle(1, 2);
        k.build(2, 3);
        k.setSign(0, 'x');
        k.setShift(0, 5);
        k.setShift(1, 1);
        k.borrow(0, true);
        k.borrow(1, true);
        k.set(0, 0);
        k.set(1, Edge.bits(3.0f));
        k.set(2, Edge.bits(1.0f));
        k.press(1, 5);
        k.tick(1);
        for (int i = 0; i < 6; i++) {
            k.press(i % 2, 0);
            k.tick(4 + i);
            k.release(i % 2, 0);
            k.tick(3);
        }
        k.press(1, 0);
        k.press(0, 3);
        k.press(0, 1);
        k.tick(2);
    }

    /** "the latest 16 are known", "the latest 24 are known": what had been driven out comes back by undo. */
    private static void knownAgain() {
        for (int i = 15; i <= 33; i++) {
            int strokes = i;
            Keys.Way way = k -> {
                k.build(2, 2);
                for (int j = 0; j < strokes; j++) {
                    k.setSign(0, (char) ('a' + j % 26));
                    k.press(0, 0);
                    k.tick(4);
                    k.release(0, 0);
                    k.tick(2);
                }
            };
            int last = 6 * (strokes - 1);
            Edge.tells("22: the 16th before", way, k -> k.stroke(15, 1), strokes > 15 ? last - 90 : Edge.NONE);
            Edge.tells("22: the 17th before", way, k -> k.stroke(16, 1), Edge.NONE);
            Edge.tells("21: the 24th before", way, k -> k.typed(0, 23), strokes > 23 ? 'a' + (strokes - 24) % 26 : Edge.NONE);
            Edge.tells("21: the 25th before", way, k -> k.typed(0, 24), Edge.NONE);
            Keys.Way undone = Whole.then(way, Keys::undo);
            Edge.tells("14: the 16th before, undone", undone, k -> k.stroke(15, 1), strokes > 16 ? last - 96 : Edge.NONE);
            Edge.tells("14: the latest, undone", undone, k -> k.stroke(0, 1), last - 6);
            Edge.tells("14: the 24th before, undone", undone, k -> k.typed(0, 23),
                    strokes > 24 ? 'a' + (strokes - 25) % 26 : Edge.NONE);
        }
    }

    public static void main(String[] args) {
        fourStates();
        emptyHistory();
        eachAct();
        noActs();
        undoRemoves();
        roundAndRound();
        snapshot();
        snapshotIsWhole();
        settingsComeBack();
        knownAgain();
        Due.tell();
    }
}
