import java.util.ArrayList;
import java.util.List;

/**
 * All that an object tells, at once and by later calls. Each look is made on objects of its own that have gone the same
 * way, so that no look disturbs another and none of the objects is called too often.
 */
final class Whole {
    /** A call of each kind, with what it was asked after. */
    record Told(String after, String question, long answer) {
    }

    private record Question(String name, Keys.Call call) {
    }

    private static final int ASKED_AT_ONCE = 200;

    private static final List<Question> STATE = stateQuestions();
    private static final List<Question> SETTINGS = settingsQuestions();
    private static final List<Question> ENDED = endedQuestions();
    private static final List<Question> LENGTHS = lengthsQuestions();

    private Whole() {
    }

    private static void add(List<Question> questions, String name, Keys.Call call) {
        questions.add(new Question(name, call));
    }

    private static List<Question> stateQuestions() {
        List<Question> questions = new ArrayList<>(endedQuestions());
        for (int i = -1; i <= 48; i++) {
            int key = i;
            for (int j = -1; j <= 7; j++) {
                int what = j;
                add(questions, "key(" + key + ", " + what + ")", k -> k.key(key, what));
            }
            add(questions, "verdict(" + key + ")", k -> k.verdict(key));
            add(questions, "ghostsBy(" + key + ")", k -> k.ghostsBy(key));
        }
        return questions;
    }

    /** What is told of anything but the keys, the history and the text. */
    private static List<Question> endedQuestions() {
        List<Question> questions = new ArrayList<>();
        for (int i = -1; i <= 13; i++) {
            int what = i;
            add(questions, "count(" + what + ")", k -> k.count(what));
        }
        for (int i = -1; i <= 2; i++) {
            addTypist(questions, i);
        }
        for (int i = -1; i <= 17; i++) {
            int back = i;
            for (int j = -1; j <= 6; j++) {
                int what = j;
                add(questions, "stroke(" + back + ", " + what + ")", k -> k.stroke(back, what));
            }
        }
        for (int i = -1; i <= 20; i++) {
            int dispute = i;
            for (int j = -1; j <= 5; j++) {
                int what = j;
                add(questions, "dispute(" + dispute + ", " + what + ")", k -> k.dispute(dispute, what));
            }
        }
        return questions;
    }

    private static void addTypist(List<Question> questions, int typist) {
        for (int j = -1; j <= 8; j++) {
            int what = j;
            add(questions, "typist(" + typist + ", " + what + ")", k -> k.typist(typist, what));
        }
        for (int j = -1; j <= 2; j++) {
            int what = j;
            add(questions, "style(" + typist + ", " + what + ")", k -> bits(k.style(typist, what)));
            add(questions, "hundredths(" + typist + ", " + what + ")", k -> k.hundredths(typist, what));
        }
        for (int j = -1; j <= 25; j++) {
            int back = j;
            add(questions, "typed(" + typist + ", " + back + ")", k -> k.typed(typist, back));
        }
        int[][] strokes = {{0, 0}, {3, 4}, {100, 7}, {4711, 9999}};
        for (int[] stroke : strokes) {
            add(questions, "distance(" + typist + ", " + stroke[0] + ", " + stroke[1] + ")",
                    k -> bits(k.distance(typist, stroke[0], stroke[1])));
        }
    }

    private static List<Question> settingsQuestions() {
        List<Question> questions = new ArrayList<>();
        for (int i = 0; i <= 2; i++) {
            int what = i;
            add(questions, "set(" + what + ", 1)", k -> k.set(what, 1));
        }
        return questions;
    }

    private static List<Question> lengthsQuestions() {
        List<Question> questions = new ArrayList<>();
        add(questions, "count(14)", k -> k.count(14));
        add(questions, "count(15)", k -> k.count(15));
        return questions;
    }

    static int bits(float value) {
        return Float.floatToIntBits(value);
    }

    static Keys.Way then(Keys.Way first, Keys.Way next) {
        return k -> {
            first.on(k);
            next.on(k);
        };
    }

    private static void ask(List<Told> told, String after, Keys.Way way, List<Question> questions) {
        Keys k = null;
        for (int i = 0; i < questions.size(); i++) {
            if (i % ASKED_AT_ONCE == 0) {
                k = new RealKeys();
                way.on(k);
            }
            Question question = questions.get(i);
            told.add(new Told(after, question.name(), question.call().on(k)));
        }
    }

    /** Lifts all hands, so that all strokes end. */
    private static void handsOff(Keys k) {
        for (int key = 0; key < 48; key++) {
            k.release(0, key);
            k.release(1, key);
        }
        k.tick(12);
    }

    private static void addState(List<Told> told, String after, Keys.Way way) {
        ask(told, after, way, STATE);
        ask(told, after, way, SETTINGS);
        ask(told, after + "hands off, ", then(way, Whole::handsOff), ENDED);
    }

    /** The state: what it tells now, the settings, and what the strokes that have begun become. */
    static List<Told> state(Keys.Way way) {
        List<Told> told = new ArrayList<>();
        addState(told, "", way);
        return told;
    }

    /** The snapshot, told by its return. */
    static List<Told> snapshot(Keys.Way way) {
        List<Told> told = new ArrayList<>();
        Keys k = new RealKeys();
        way.on(k);
        told.add(new Told("", "restore()", k.restore()));
        addState(told, "restore, ", then(way, Keys::restore));
        return told;
    }

    /** The text, told by its length and by what it performs. */
    static List<Told> text(Keys.Way way) {
        List<Told> told = new ArrayList<>();
        Keys k = new RealKeys();
        way.on(k);
        told.add(new Told("", "count(15)", k.count(15)));
        told.add(new Told("", "perform()", k.perform()));
        addState(told, "perform, ", then(way, Keys::perform));
        return told;
    }

    /** The latest states of the history, from the latest on. */
    static List<Told> pasts(Keys.Way way, int states) {
        List<Told> told = new ArrayList<>();
        String after = "";
        Keys.Way back = way;
        for (int i = 0; i < states; i++) {
            after = after + "undo, ";
            back = then(back, Keys::undo);
            addState(told, after, back);
        }
        return told;
    }

    /** Everything: the state, the history, the snapshot and the text. */
    static List<Told> all(Keys.Way way) {
        List<Told> told = state(way);
        ask(told, "", way, LENGTHS);
        told.addAll(pasts(way, 5));
        told.addAll(snapshot(way));
        told.addAll(text(way));
        return told;
    }

    /** What is told of the state at once, as the model tells it too; each question is asked by itself. */
    static void compare(String label, Keys.Way way, int asked, Keys model) {
        Keys k = null;
        for (int i = 0; i < STATE.size(); i++) {
            if (i % asked == 0) {
                k = new RealKeys();
                way.on(k);
            }
            Question question = STATE.get(i);
            Due.is(label, question.name(), question.call().on(k), question.call().on(model));
        }
        for (Question question : LENGTHS) {
            k = new RealKeys();
            way.on(k);
            Due.is(label, question.name(), question.call().on(k), question.call().on(model));
        }
    }
}
