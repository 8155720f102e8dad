/**
 * The two sides of a boundary: a call that is refused, after which nothing is otherwise than if it had not been made, and
 * a call that is done, with the answer of it, and with what later calls show.
 */
final class Edge {
    static final int UNKNOWN = -1;
    static final int BAD_VALUE = -2;
    static final int FULL = -3;
    static final int NOT_POSSIBLE = -4;
    static final int NONE = -5;

    static final Keys.Way NEW = k -> { };

    private static final int MOST_STATES = 4;

    private Edge() {
    }

    interface FloatCall {
        float on(Keys k);
    }

    static Keys after(Keys.Way way) {
        Keys k = new RealKeys();
        way.on(k);
        return k;
    }

    static void tells(String sentence, Keys.Way way, Keys.Call question, long due) {
        Due.is(sentence, question.on(after(way)), due);
    }

    static void tellsFloat(String sentence, Keys.Way way, FloatCall question, float due) {
        Due.is(sentence, question.on(after(way)), due);
    }

    /** The call answers an error, NONE or a NaN, and changes nothing: state, history, snapshot and text. */
    static void refused(String sentence, Keys.Way before, Keys.Call call, long error) {
        tells(sentence, before, call, error);
        Due.same(sentence + ", nothing changes", Whole.all(Whole.then(before, call::on)), Whole.all(before));
    }

    static void noNumber(String sentence, Keys.Way before, FloatCall call) {
        refused(sentence, before, k -> Whole.bits(call.on(k)), Whole.bits(Float.NaN));
    }

    /** The call is an act: the state before it is recorded, and comes back whole by undo. */
    static void act(String sentence, Keys.Way before, Keys.Call call, long answer) {
        tells(sentence, before, call, answer);
        int depth = after(before).count(14);
        Keys.Way done = Whole.then(before, call::on);
        tells(sentence + ", is recorded", done, k -> k.count(14), Math.min(depth + 1, MOST_STATES));
        Keys.Way undone = Whole.then(done, Keys::undo);
        int left = Math.min(depth, MOST_STATES - 1);
        tells(sentence + ", states after undo", undone, k -> k.count(14), left);
        Due.same(sentence + ", undone", Whole.state(undone), Whole.state(before));
        Due.same(sentence + ", states before it", Whole.pasts(undone, left), Whole.pasts(before, left));
        Due.same(sentence + ", the snapshot stays", Whole.snapshot(undone), Whole.snapshot(before));
        Due.same(sentence + ", the text stays", Whole.text(undone), Whole.text(before));
    }

    /** The call does something, but is no act: the state and the history stay. */
    static void noAct(String sentence, Keys.Way before, Keys.Call call, long answer) {
        tells(sentence, before, call, answer);
        Keys.Way done = Whole.then(before, call::on);
        int depth = after(before).count(14);
        tells(sentence + ", is not recorded", done, k -> k.count(14), depth);
        Due.same(sentence + ", the state stays", Whole.state(done), Whole.state(before));
        Due.same(sentence + ", the history stays", Whole.pasts(done, depth), Whole.pasts(before, depth));
    }

    /** Presses a key, lets it be seen for that many ticks and ended; its row is driven next, and again after them. */
    static void strike(Keys k, int typist, int key, int dwell) {
        k.press(typist, key);
        k.tick(dwell);
        k.release(typist, key);
        k.tick(1);
    }

    /** The same on a keyboard of two rows, for an even dwell and the row 0, which is driven next then once more. */
    static void strikeOfTwoRows(Keys k, int typist, int key, int dwell) {
        k.press(typist, key);
        k.tick(dwell);
        k.release(typist, key);
        k.tick(2);
    }

    static void write(Keys k, String text) {
        for (int i = 0; i < text.length(); i++) {
            k.type(text.charAt(i));
        }
    }

    static int bits(float value) {
        return Float.floatToRawIntBits(value);
    }
}
