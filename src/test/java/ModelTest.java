/**
 * Plays long runs of calls on the program and on the plain model side by side; the two must answer alike. With what is
 * asked between, a run has more than the 512 calls that the document promises: the program does not count its calls.
 */
public final class ModelTest {
    private static final int CALLS = 512;
    private static final String[] SCRIPTS = {
        "0d1;t4;0u1;t4", "1d0;0d7;t12;1u0;t9;0u7;t8", "t9", "t99;t99;t99", "0d0;1d1;0d6;t8;0u0;1u1;0u6;t8",
        "0d2;t3;1d3;t6;0u2;t7;1u3;t5", "1d10;t20;1u10;t6;0d11;t4;0u11;t6", "0d1;t4;0d1", "0d47", "", "t0", "0x", "1d07",
        "0d1;", ";", "2d1", "0u5;t1", "1d1;t1;1u1;t5;1d1;t1;1u1;t5;1d1;t1;1u1;t5", "t100", "0d100", "0d0;0d1;0d2;0d3;0d4;0d5",
    };
    private static final float[] VALUES = {0.0f, 0.125f, 0.25f, 0.5f, 1.0f, 2.0f, 4.0f, 0.3f, 1.7f, Float.MIN_VALUE, 5.9e-39f,
        -0.0f, -1.0f, Float.NaN, Float.POSITIVE_INFINITY, 4.0000005f, 2.0000002f, 1.0000001f, 1.1754944e-38f, 3.3333f};

    private static long seed;

    private ModelTest() {
    }

    /** The same numbers in every run of the test. */
    private static int pick(int bound) {
        seed = seed * 6364136223846793005L + 1442695040888963407L;
        return (int) ((seed >>> 33) % bound);
    }

    private static int pickTypist() {
        return pick(40) == 0 ? pick(5) - 2 : pick(2);
    }

    private static int pickKey(BlanketKeys x) {
        int size = x.count(1) * x.count(2);
        return pick(40) == 0 ? pick(60) - 4 : pick(size);
    }

    private static String runName;

    private static void same(String call, long got, long want) {
        Due.is(runName + call, got, want);
    }

    private static void same(String call, float got, float want) {
        Due.is(runName + call, got, want);
    }

    private static void compareAll(BlanketKeys x, PlainModel m) {
        for (int what = -1; what <= 16; what++) {
            same("count " + what, x.count(what), m.count(what));
        }
        int size = x.count(1) * x.count(2);
        for (int key = -1; key <= size; key++) {
            for (int what = -1; what <= 7; what++) {
                same("key " + key + " " + what, x.key(key, what), m.key(key, what));
            }
            same("verdict " + key, x.verdict(key), m.verdict(key));
        }
        int odd = pick(size);
        same("ghostsBy " + odd, x.ghostsBy(odd), m.ghostsBy(odd));
        for (int typist = -1; typist <= 2; typist++) {
            for (int what = -1; what <= 8; what++) {
                same("typist " + typist + " " + what, x.typist(typist, what), m.typist(typist, what));
                same("style " + typist + " " + what, x.style(typist, what), m.style(typist, what));
                same("hundredths " + typist + " " + what, x.hundredths(typist, what), m.hundredths(typist, what));
            }
            for (int back = -1; back <= 25; back++) {
                same("typed " + typist + " " + back, x.typed(typist, back), m.typed(typist, back));
            }
        }
        for (int back = -1; back <= 17; back++) {
            for (int what = -1; what <= 6; what++) {
                same("stroke " + back + " " + what, x.stroke(back, what), m.stroke(back, what));
            }
        }
        for (int dispute = -1; dispute <= 21; dispute++) {
            for (int what = -1; what <= 5; what++) {
                same("dispute " + dispute + " " + what, x.dispute(dispute, what), m.dispute(dispute, what));
            }
        }
    }

    private static void typeText(BlanketKeys x, PlainModel m, String text) {
        for (int i = 0; i < text.length(); i++) {
            same("type", x.type(text.charAt(i)), m.type(text.charAt(i)));
        }
    }

    private static void rareCall(BlanketKeys x, PlainModel m) {
        switch (pick(12)) {
            case 0: {
                int rows = pick(7) + 1;
                int columns = pick(9) + 1;
                same("build", x.build(rows, columns), m.build(rows, columns));
                break;
            }
            case 1:
            case 2: {
                int typist = pickTypist();
                int key = pickKey(x);
                same("setShift", x.setShift(typist, key), m.setShift(typist, key));
                break;
            }
            case 3: {
                int typist = pickTypist();
                boolean is = pick(3) > 0;
                same("borrow", x.borrow(typist, is), m.borrow(typist, is));
                break;
            }
            case 4: {
                int what = pick(30) == 0 ? pick(9) - 4 : pick(3);
                int bits = Float.floatToRawIntBits(VALUES[pick(VALUES.length)]);
                same("set", x.set(what, bits), m.set(what, bits));
                break;
            }
            case 5:
            case 6:
                same("undo", x.undo(), m.undo());
                break;
            case 7:
                same("keep", x.keep(), m.keep());
                break;
            case 8:
                same("restore", x.restore(), m.restore());
                break;
            case 9:
                same("clearText", x.clearText(), m.clearText());
                typeText(x, m, SCRIPTS[pick(SCRIPTS.length)]);
                break;
            case 10:
                same("perform", x.perform(), m.perform());
                break;
            default: {
                int typist = pickTypist();
                int since = pick(3) == 0 ? pick(Integer.MAX_VALUE) - 5 : pick(400);
                int dwell = pick(3) == 0 ? pick(10050) - 20 : pick(40);
                same("distance", x.distance(typist, since, dwell), m.distance(typist, since, dwell));
                break;
            }
        }
    }

    private static void commonCall(BlanketKeys x, PlainModel m, int ticks) {
        switch (pick(8)) {
            case 0:
            case 1:
            case 2: {
                int typist = pickTypist();
                int key = pickKey(x);
                same("press", x.press(typist, key), m.press(typist, key));
                break;
            }
            case 3:
            case 4: {
                int key = pickKey(x);
                for (int typist = -1; typist <= 2; typist++) {
                    same("release", x.release(typist, key), m.release(typist, key));
                }
                break;
            }
            case 5: {
                int n = pick(30) == 0 ? pick(110) - 5 : 1 + pick(ticks);
                same("tick", x.tick(n), m.tick(n));
                break;
            }
            case 6: {
                int dispute = pick(22) - 1;
                int who = pick(30) == 0 ? pick(9) - 3 : pick(3);
                same("settle", x.settle(dispute, who), m.settle(dispute, who));
                break;
            }
            default: {
                int key = pickKey(x);
                char sign = pick(20) == 0 ? (char) pick(300) : pick(9) == 0 ? '.' : (char) ('a' + pick(26));
                same("setSign", x.setSign(key, sign), m.setSign(key, sign));
                break;
            }
        }
    }

    private static void play(int run) {
        seed = run * 7919L + 17;
        runName = "run " + run + ": ";
        BlanketKeys x = new BlanketKeys();
        PlainModel m = new PlainModel();
        int rows = 2 + run % 5;
        int columns = 2 + run / 5 % 7;
        same("build", x.build(rows, columns), m.build(rows, columns));
        // of three runs, one has a wide margin, and so disputes by the dozen
        int margin = Float.floatToRawIntBits(run % 3 == 0 ? 1.5f : 0.125f);
        same("set", x.set(0, margin), m.set(0, margin));
        int rarely = 3 + run % 8;
        int ticks = 3 + run % 17;
        for (int call = 0; call < CALLS; call++) {
            if (pick(rarely) == 0) {
                rareCall(x, m);
            } else {
                commonCall(x, m, ticks);
            }
            if (pick(12) == 0) {
                compareAll(x, m);
            }
        }
        compareAll(x, m);
    }

    private static void playTexts() {
        seed = 5;
        String likely = "01dut;0123456789t;;dd";
        for (int text = 0; text < 5000; text++) {
            runName = "text " + text + ": ";
            BlanketKeys x = new BlanketKeys();
            PlainModel m = new PlainModel();
            int length = pick(9) == 0 ? 70 : pick(12);
            for (int i = 0; i < length; i++) {
                char c = pick(25) == 0 ? (char) pick(65536) : likely.charAt(pick(likely.length()));
                same("type", x.type(c), m.type(c));
            }
            same("perform", x.perform(), m.perform());
            same("tick", x.count(0), m.count(0));
            same("clearText", x.clearText(), m.clearText());
        }
    }

    public static void main(String[] args) {
        int runs = args.length > 0 ? Integer.parseInt(args[0]) : 210;
        for (int run = 0; run < runs && Due.wrong() == 0; run++) {
            play(run);
        }
        playTexts();
        Due.tell();
    }
}
