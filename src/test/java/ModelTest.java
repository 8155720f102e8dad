import java.util.ArrayList;
import java.util.List;

/**
 * Plays long runs of calls on the program and on the plain model side by side; the two must answer alike. What is asked
 * between is asked of other objects that have gone the same way: an object is good for 512 calls, and no more.
 */
public final class ModelTest {
    private static final int ACTS = 400;
    private static final int ASKED_AT_ONCE = RealKeys.MOST_CALLS - ACTS;
    /** A text is emptied, and typed, in one go. */
    private static final int MOST_AT_ONCE = 70;
    private static final String[] SCRIPTS = {
        "0d1;t4;0u1;t4", "1d0;0d7;t12;1u0;t9;0u7;t8", "t9", "t99;t99;t99", "0d0;1d1;0d6;t8;0u0;1u1;0u6;t8",
        "0d2;t3;1d3;t6;0u2;t7;1u3;t5", "1d10;t20;1u10;t6;0d11;t4;0u11;t6", "0d1;t4;0d1", "0d47", "", "t0", "0x", "1d07",
        "0d1;", ";", "2d1", "0u5;t1", "1d1;t1;1u1;t5;1d1;t1;1u1;t5;1d1;t1;1u1;t5", "t100", "0d100", "0d0;0d1;0d2;0d3;0d4;0d5",
    };
    private static final float[] VALUES = {0.0f, 0.125f, 0.25f, 0.5f, 1.0f, 2.0f, 4.0f, 0.3f, 1.7f, Float.MIN_VALUE, 5.9e-39f,
        -0.0f, -1.0f, Float.NaN, Float.POSITIVE_INFINITY, 4.0000005f, 2.0000002f, 1.0000001f, 1.1754944e-38f, 3.3333f};

    private static long seed;

    private ModelTest() {
    }

    /** The same numbers in every run of the test. */
    private static int pick(int bound) {
        seed = seed * 6364136223846793005L + 1442695040888963407L;
        return (int) ((seed >>> 33) % bound);
    }

    private static int pickTypist() {
        return pick(40) == 0 ? pick(5) - 2 : pick(2);
    }

    private static int pickKey() {
        return pick(40) == 0 ? pick(60) - 4 : pick(size());
    }

    private static String runName;
    private static Keys program;
    private static Keys model;
    private static List<Keys.Call> done;

    private static void begin(String name) {
        runName = name;
        program = new RealKeys();
        model = new PlainModel();
        done = new ArrayList<>();
    }

    private static int size() {
        return model.count(1) * model.count(2);
    }

    private static void same(String name, Keys.Call call) {
        Due.is(runName, name, call.on(program), call.on(model));
        done.add(call);
    }

    private static void goAgain(Keys k) {
        for (Keys.Call call : done) {
            call.on(k);
        }
    }

    private static void compareAll(int asked) {
        Whole.compare(runName, ModelTest::goAgain, asked, model);
    }

    private static void typeText(String text) {
        for (char c : text.toCharArray()) {
            same("type", k -> k.type(c));
        }
    }

    private static void rareCall() {
        switch (pick(12)) {
            case 0: {
                int rows = pick(7) + 1;
                int columns = pick(9) + 1;
                same("build", k -> k.build(rows, columns));
                break;
            }
            case 1:
            case 2: {
                int typist = pickTypist();
                int key = pickKey();
                same("setShift", k -> k.setShift(typist, key));
                break;
            }
            case 3: {
                int typist = pickTypist();
                boolean is = pick(3) > 0;
                same("borrow", k -> k.borrow(typist, is));
                break;
            }
            case 4: {
                int what = pick(30) == 0 ? pick(9) - 4 : pick(3);
                int bits = Float.floatToRawIntBits(VALUES[pick(VALUES.length)]);
                same("set", k -> k.set(what, bits));
                break;
            }
            case 5:
            case 6:
                same("undo", Keys::undo);
                break;
            case 7:
                same("keep", Keys::keep);
                break;
            case 8:
                same("restore", Keys::restore);
                break;
            case 9:
                same("clearText", Keys::clearText);
                typeText(SCRIPTS[pick(SCRIPTS.length)]);
                break;
            case 10:
                same("perform", Keys::perform);
                break;
            default: {
                int typist = pickTypist();
                int since = pick(3) == 0 ? pick(1 << 24) - 5 : pick(400);
                int dwell = pick(3) == 0 ? pick(10050) - 20 : pick(40);
                same("distance", k -> Whole.bits(k.distance(typist, since, dwell)));
                break;
            }
        }
    }

    private static void commonCall(int ticks) {
        switch (pick(8)) {
            case 0:
            case 1:
            case 2: {
                int typist = pickTypist();
                int key = pickKey();
                same("press", k -> k.press(typist, key));
                break;
            }
            case 3:
            case 4: {
                int key = pickKey();
                for (int i = -1; i <= 2; i++) {
                    int typist = i;
                    same("release", k -> k.release(typist, key));
                }
                break;
            }
            case 5: {
                int n = pick(30) == 0 ? pick(110) - 5 : 1 + pick(ticks);
                same("tick", k -> k.tick(n));
                break;
            }
            case 6: {
                int dispute = pick(22) - 1;
                int who = pick(30) == 0 ? pick(9) - 3 : pick(3);
                same("settle", k -> k.settle(dispute, who));
                break;
            }
            default: {
                int key = pickKey();
                char sign = pick(20) == 0 ? (char) pick(300) : pick(9) == 0 ? '.' : (char) ('a' + pick(26));
                same("setSign", k -> k.setSign(key, sign));
                break;
            }
        }
    }

    private static void play(int run, int acts) {
        seed = run * 7919L + 17;
        begin("run " + run + ": ");
        int rows = 2 + run % 5;
        int columns = 2 + run / 5 % 7;
        same("build", k -> k.build(rows, columns));
        // of three runs, one has a wide margin, and so disputes by the dozen
        int margin = Float.floatToRawIntBits(run % 3 == 0 ? 1.5f : 0.125f);
        same("set", k -> k.set(0, margin));
        int rarely = 3 + run % 8;
        int ticks = 3 + run % 17;
        int compared = 0;
        while (done.size() < acts - MOST_AT_ONCE) {
            if (pick(rarely) == 0) {
                rareCall();
            } else {
                commonCall(ticks);
            }
            if (done.size() - compared >= 15 && acts <= ACTS) {
                compared = done.size();
                compareAll(ASKED_AT_ONCE);
            }
        }
        while (done.size() < acts) {
            same("tick", k -> k.tick(1));
        }
        compareAll(RealKeys.MOST_CALLS - acts);
    }

    private static void playTexts() {
        seed = 5;
        String likely = "01dut;0123456789t;;dd";
        for (int text = 0; text < 5000; text++) {
            begin("text " + text + ": ");
            int length = pick(9) == 0 ? 70 : pick(12);
            for (int i = 0; i < length; i++) {
                char c = pick(25) == 0 ? (char) pick(65536) : likely.charAt(pick(likely.length()));
                same("type", k -> k.type(c));
            }
            same("perform", Keys::perform);
            same("tick", k -> k.count(0));
            same("clearText", Keys::clearText);
        }
    }

    public static void main(String[] args) {
        int runs = args.length > 0 ? Integer.parseInt(args[0]) : 210;
        for (int run = 0; run < runs && Due.wrong() == 0; run++) {
            play(run, ACTS);
        }
        // the last call that is promised, the 512th, answers as any other
        for (int run = 0; run < 12 && Due.wrong() == 0; run++) {
            play(run, RealKeys.MOST_CALLS - 1);
        }
        playTexts();
        Due.tell();
    }
}
