/** Each sentence of "ERRORS" and of the promises 17 to 27 that names a boundary, on both of its sides. */
public final class ToldEdgesTest {
    private static final int MOST = Integer.MAX_VALUE;
    private static final int LEAST = Integer.MIN_VALUE;
    private static final int[] NO_TYPISTS = {-1, 2, LEAST, MOST, 256, 65537};

    private ToldEdgesTest() {
    }

    /** Two rows and three columns, one stroke credited to each typist, one dispute; two keys down, one seen, one shift. */
    private static void some(Keys k) {
        k.build(2, 3);
        k.setSign(1, 'b');
        k.setShift(1, 5);
        Edge.strikeOfTwoRows(k, 0, 1, 4);
        Edge.strikeOfTwoRows(k, 1, 0, 8);
        k.set(0, Edge.bits(2.0f));
        Edge.strikeOfTwoRows(k, 1, 2, 6);
        k.press(1, 5);
        k.press(0, 1);
        k.tick(1);
    }

    /** The first and the last key, and those before and behind them, in each call that tells of a key. */
    private static void keys() {
        int[][] sizes = {{4, 6}, {2, 2}, {6, 8}, {2, 8}, {6, 2}};
        for (int[] size : sizes) {
            int last = size[0] * size[1] - 1;
            Keys.Way built = k -> k.build(size[0], size[1]);
            int[] none = {-1, last + 1, LEAST, MOST, -last - 1, last + 65537};
            for (int key : none) {
                for (int i = -1; i <= 7; i++) {
                    int what = i;
                    Edge.tells("17: UNKNOWN of key " + key + ", what " + what, built, k -> k.key(key, what), Edge.UNKNOWN);
                }
                Edge.refused("17: UNKNOWN of key " + key, built, k -> k.key(key, 0), Edge.UNKNOWN);
                Edge.refused("25: UNKNOWN of key " + key, built, k -> k.verdict(key), Edge.UNKNOWN);
                Edge.refused("26: UNKNOWN of key " + key, built, k -> k.ghostsBy(key), Edge.UNKNOWN);
            }
            int[] some = {0, last};
            for (int key : some) {
                int[] due = {Edge.NONE, 0, Edge.NONE, 0, '.', Edge.NONE, 0};
                for (int i = 0; i < due.length; i++) {
                    int what = i;
                    Edge.tells("17: key " + key + ", what " + what, built, k -> k.key(key, what), due[what]);
                }
                Edge.refused("25: NONE of key " + key + ", that is not seen", built, k -> k.verdict(key), Edge.NONE);
                Edge.tells("26: key " + key, built, k -> k.ghostsBy(key), 100);
            }
        }
    }

    /** what of key(): 0 to 6, and what each tells on both sides. */
    private static void keyWhat() {
        int[] wrong = {-1, 7, LEAST, MOST, 256};
        for (int what : wrong) {
            Edge.refused("17: BAD_VALUE of what " + what, ToldEdgesTest::some, k -> k.key(0, what), Edge.BAD_VALUE);
            Edge.tells("17: UNKNOWN before BAD_VALUE", ToldEdgesTest::some, k -> k.key(6, what), Edge.UNKNOWN);
        }
        // 1 is down and seen, 5 is down and not seen yet, 2 is neither
        int[][] due = {{1, 0, 1, 20, 0, 'b', Edge.NONE, 1}, {2, Edge.NONE, 0, Edge.NONE, 0, '.', Edge.NONE, 0},
            {5, 1, 0, Edge.NONE, 0, '.', 1, 1}};
        int since = Edge.after(ToldEdgesTest::some).count(0) - 1;
        due[0][3] = since;
        for (int[] one : due) {
            for (int i = 0; i <= 6; i++) {
                int what = i;
                Edge.tells("17: key " + one[0] + ", what " + what, ToldEdgesTest::some, k -> k.key(one[0], what), one[what + 1]);
            }
        }
        Keys.Way next = Whole.then(ToldEdgesTest::some, k -> k.tick(1));
        Edge.tells("17: 5 is seen then", next, k -> k.key(5, 1), 1);
        Edge.tells("17: since a tick later", next, k -> k.key(5, 2), since + 1);
        Keys.Way up = Whole.then(next, k -> k.release(1, 5));
        Edge.tells("17: seen, though not sensed any more", up, k -> k.key(5, 1) * 10 + k.key(5, 6), 10);
        Edge.tells("17: held by nobody", up, k -> k.key(5, 0), Edge.NONE);
    }

    /** "3 for whether it is seen and doubtful": the doubt of a key ends with its stroke. */
    private static void doubtfulAndSeen() {
        Keys.Way way = k -> {
            k.build(2, 2);
            k.press(0, 0);
            k.press(0, 1);
            k.press(0, 2);
            k.tick(2);
        };
        Edge.tells("17: doubtful", way, k -> k.key(3, 3), 1);
        Edge.tells("27: doubtful keys", way, k -> k.count(5), 2);
        Keys.Way ended = Whole.then(way, k -> {
            k.release(0, 2);
            k.tick(2);
        });
        Edge.tells("17: not seen any more", ended, k -> k.key(3, 1), 0);
        Edge.tells("17: so not doubtful", ended, k -> k.key(3, 3), 0);
        Edge.tells("27: none is doubtful", ended, k -> k.count(5), 0);
        Edge.tells("27: two are seen", ended, k -> k.count(4), 2);
    }

    /** typist: 0 and 1, and what of each call: the order of the checks. */
    private static void typists() {
        Keys.Way way = ToldEdgesTest::some;
        for (int typist : NO_TYPISTS) {
            for (int i = -1; i <= 8; i++) {
                int what = i;
                Edge.tells("18: UNKNOWN of typist " + typist, way, k -> k.typist(typist, what), Edge.UNKNOWN);
                Edge.tells("20: UNKNOWN of typist " + typist, way, k -> k.hundredths(typist, what), Edge.UNKNOWN);
                Edge.tells("21: UNKNOWN of typist " + typist, way, k -> k.typed(typist, what), Edge.UNKNOWN);
                Edge.tellsFloat("19: a NaN of typist " + typist, way, k -> k.style(typist, what), Float.NaN);
            }
            Edge.refused("18: UNKNOWN of typist " + typist, way, k -> k.typist(typist, 0), Edge.UNKNOWN);
            Edge.noNumber("19: a NaN of typist " + typist, way, k -> k.style(typist, 0));
            Edge.refused("20: UNKNOWN of typist " + typist, way, k -> k.hundredths(typist, 1), Edge.UNKNOWN);
            Edge.refused("21: UNKNOWN of typist " + typist, way, k -> k.typed(typist, 0), Edge.UNKNOWN);
            Edge.noNumber("24: a NaN of typist " + typist, way, k -> k.distance(typist, 0, 0));
        }
        int[] wrong = {-1, 8, LEAST, MOST, 256};
        for (int what : wrong) {
            Edge.refused("18: BAD_VALUE of what " + what, way, k -> k.typist(0, what), Edge.BAD_VALUE);
            Edge.refused("18: BAD_VALUE of what " + what, way, k -> k.typist(1, what), Edge.BAD_VALUE);
        }
        int[] noMeans = {-1, 2, LEAST, MOST, 256};
        for (int what : noMeans) {
            Edge.noNumber("19: a NaN of what " + what, way, k -> k.style(1, what));
            Edge.refused("20: BAD_VALUE of what " + what, way, k -> k.hundredths(1, what), Edge.BAD_VALUE);
        }
    }

    /** What is told of a typist, on both sides of none and some. */
    private static void typistWhat() {
        int[][] atFirst = {{0, Edge.NONE, 0, 0, 0, 0, 0, Edge.NONE}, {0, Edge.NONE, 0, 0, 0, 0, 0, Edge.NONE}};
        // the strokes of 1 (dwell 4) and 0 (dwell 8) went to 0 and 1, by their true holders; the third one is in dispute
        int[][] then = {{1, Edge.NONE, 0, 0, 1, 1, 1, 0}, {1, 5, 0, 0, 1, 1, 0, 6}};
        for (int i = 0; i < 2; i++) {
            int typist = i;
            for (int j = 0; j <= 7; j++) {
                int what = j;
                String call = "18: typist(" + typist + ", " + what + ")";
                Edge.tells(call + " at first", Edge.NEW, k -> k.typist(typist, what), atFirst[typist][what]);
                Edge.tells(call, ToldEdgesTest::some, k -> k.typist(typist, what), then[typist][what]);
            }
            float[] means = {typist == 0 ? 4.0f : 8.0f, typist == 0 ? 6.0f : 10.0f};
            for (int j = 0; j <= 1; j++) {
                int what = j;
                Edge.tellsFloat("19: style at first", Edge.NEW, k -> k.style(typist, what), means[what]);
                Edge.tells("20: hundredths at first", Edge.NEW, k -> k.hundredths(typist, what), (int) means[what] * 100);
            }
        }
        Edge.tells("18: the shift on", Whole.then(ToldEdgesTest::some, k -> k.tick(1)), k -> k.typist(1, 2), 1);
        Edge.tells("18: the key 0 as a shift", k -> k.setShift(0, 0), k -> k.typist(0, 1), 0);
        Edge.tells("18: borrows", k -> k.borrow(1, true), k -> k.typist(1, 3), 1);
        Edge.tells("18: the other one does not", k -> k.borrow(1, true), k -> k.typist(0, 3), 0);
    }

    /** "(int) (mean * 100.0f), where (int) drops what is behind the point": in floats, just below a whole number and at it. */
    private static void hundredths() {
        int otherInDoubles = 0;
        for (int i = 0; i < 400; i++) {
            float rate = 0.01f + i * 0.0024f;
            Keys k = new RealKeys();
            k.build(3, 2);
            k.set(2, Edge.bits(rate));
            Edge.strike(k, 0, 0, 3);
            float step = (3.0f - 4.0f) * rate;
            float mean = 4.0f + step;
            float hundred = mean * 100.0f;
            otherInDoubles += (int) (mean * 100.0) != (int) hundred ? 1 : 0;
            Due.is("20: hundredths of " + mean, k.hundredths(0, 0), (int) hundred);
        }
        Due.is("20: doubles would show", otherInDoubles > 0 ? 1 : 0, 1);
        int[] rates = {Edge.bits(0.25f), Edge.bits(0.25f) + 8, Edge.bits(0.25f) - 8};
        int[] due = {375, 374, 375};
        for (int i = 0; i < rates.length; i++) {
            int rate = rates[i];
            Edge.tells("20: about 3.75, " + i, k -> {
                k.build(3, 2);
                k.set(2, rate);
                Edge.strike(k, 0, 0, 3);
            }, k -> k.hundredths(0, 0), due[i]);
        }
    }

    /** "back": negative, none, as many as there are, and as many as are known. */
    private static void typed() {
        for (int i = 0; i <= 26; i++) {
            int signs = i;
            Keys.Way way = k -> {
                k.build(2, 2);
                for (int j = 0; j < signs; j++) {
                    k.setSign(0, (char) ('a' + j));
                    k.press(0, 0);
                    k.tick(4);
                    k.release(0, 0);
                    k.tick(2);
                }
            };
            Keys k = Edge.after(way);
            for (int back = 0; back <= 26; back++) {
                boolean isKnown = back < signs && back < 24;
                Due.is("21: of " + signs + " back " + back, k.typed(0, back), isKnown ? 'a' + signs - 1 - back : Edge.NONE);
                Due.is("21: of the other one", k.typed(1, back), Edge.NONE);
            }
            Due.is("18: signs typed", k.typist(0, 6), signs);
            int[] wrong = {-1, -24, LEAST};
            for (int back : wrong) {
                Due.is("21: BAD_VALUE of back " + back, k.typed(0, back), Edge.BAD_VALUE);
                Due.is("21: BAD_VALUE before NONE", k.typed(1, back), Edge.BAD_VALUE);
                Due.is("21: UNKNOWN before BAD_VALUE", k.typed(2, back), Edge.UNKNOWN);
            }
            Due.is("21: NONE, far back", k.typed(0, MOST), Edge.NONE);
        }
        Edge.refused("21: BAD_VALUE of back -1", ToldEdgesTest::some, k -> k.typed(0, -1), Edge.BAD_VALUE);
        Edge.refused("21: NONE, there was one", ToldEdgesTest::some, k -> k.typed(0, 1), Edge.NONE);
        Edge.refused("21: NONE, there was none", ToldEdgesTest::some, k -> k.typed(1, 0), Edge.NONE);
        Edge.refused("21: UNKNOWN before NONE", ToldEdgesTest::some, k -> k.typed(2, 9), Edge.UNKNOWN);
    }

    private static void strokes() {
        for (int i = 0; i <= 18; i++) {
            int strokes = i;
            Keys.Way way = k -> {
                k.build(2, 2);
                for (int j = 0; j < strokes; j++) {
                    Edge.strikeOfTwoRows(k, 0, j % 2, 4);
                }
            };
            Keys k = Edge.after(way);
            for (int back = 0; back <= 19; back++) {
                boolean isKnown = back < strokes && back < 16;
                int number = strokes - 1 - back;
                Due.is("22: key of " + strokes + " back " + back, k.stroke(back, 0), isKnown ? number % 2 : Edge.NONE);
                Due.is("22: since of " + strokes + " back " + back, k.stroke(back, 1), isKnown ? number * 6 : Edge.NONE);
                Due.is("22: BAD_VALUE, what -1, back " + back, k.stroke(back, -1), Edge.BAD_VALUE);
                Due.is("22: BAD_VALUE, what 6, back " + back, k.stroke(back, 6), Edge.BAD_VALUE);
                Due.is("22: BAD_VALUE, back " + (-1 - back), k.stroke(-1 - back, 0), Edge.BAD_VALUE);
            }
            Due.is("27: strokes that have ended", k.count(6), strokes);
            Due.is("22: NONE, far back", k.stroke(MOST, 5), Edge.NONE);
            Due.is("22: BAD_VALUE, both", k.stroke(LEAST, MOST), Edge.BAD_VALUE);
        }
        Keys.Way way = ToldEdgesTest::some;
        int[][] due = {{2, 16, 6, 3, 1, 0}, {0, 6, 8, 1, 1, 0}, {1, 0, 4, 0, 0, 0}};
        for (int back = 0; back < 3; back++) {
            for (int i = 0; i <= 5; i++) {
                int of = back;
                int what = i;
                Edge.tells("22: stroke(" + of + ", " + what + ")", way, k -> k.stroke(of, what), due[of][what]);
            }
        }
        Edge.refused("22: NONE, the fourth of three", way, k -> k.stroke(3, 0), Edge.NONE);
        Edge.refused("22: BAD_VALUE before NONE", way, k -> k.stroke(3, 6), Edge.BAD_VALUE);
        Edge.refused("22: BAD_VALUE of back -1", way, k -> k.stroke(-1, 5), Edge.BAD_VALUE);
        Edge.refused("22: BAD_VALUE of what 6", way, k -> k.stroke(0, 6), Edge.BAD_VALUE);
        Edge.refused("22: BAD_VALUE of what -1", way, k -> k.stroke(0, -1), Edge.BAD_VALUE);
        Edge.refused("22: NONE, there was none", Edge.NEW, k -> k.stroke(0, 0), Edge.NONE);
    }

    private static void disputes() {
        int[] numbers = {0, 1, 19, 20};
        for (int number : numbers) {
            Keys k = Edge.after(x -> {
                x.build(2, 4);
                x.set(0, Edge.bits(2.0f));
                for (int i = 0; i < number; i++) {
                    Edge.strikeOfTwoRows(x, i % 2, i % 4, 2);
                }
            });
            for (int dispute = -1; dispute <= 21; dispute++) {
                boolean isThere = dispute >= 0 && dispute < number;
                Due.is("23: key of " + dispute, k.dispute(dispute, 0), isThere ? dispute % 4 : Edge.UNKNOWN);
                Due.is("23: since of " + dispute, k.dispute(dispute, 1), isThere ? dispute * 4 : Edge.UNKNOWN);
                Due.is("23: open " + dispute, k.dispute(dispute, 3), isThere ? Edge.NONE : Edge.UNKNOWN);
                Due.is("23: true holder of " + dispute, k.dispute(dispute, 4), isThere ? dispute % 2 : Edge.UNKNOWN);
                Due.is("23: what 5 of " + dispute, k.dispute(dispute, 5), isThere ? Edge.BAD_VALUE : Edge.UNKNOWN);
                Due.is("23: what -1 of " + dispute, k.dispute(dispute, -1), isThere ? Edge.BAD_VALUE : Edge.UNKNOWN);
            }
            Due.is("23: far", k.dispute(MOST, 0), Edge.UNKNOWN);
            Due.is("23: far below", k.dispute(LEAST, 0), Edge.UNKNOWN);
        }
        Keys.Way way = ToldEdgesTest::some;
        int[] due = {2, 16, 6, Edge.NONE, 1};
        for (int i = 0; i <= 4; i++) {
            int what = i;
            Edge.tells("23: dispute(0, " + what + ")", way, k -> k.dispute(0, what), due[what]);
        }
        int[] wrong = {-1, 5, LEAST, MOST};
        for (int what : wrong) {
            Edge.refused("23: BAD_VALUE of what " + what, way, k -> k.dispute(0, what), Edge.BAD_VALUE);
            Edge.refused("23: UNKNOWN before BAD_VALUE", way, k -> k.dispute(1, what), Edge.UNKNOWN);
            Edge.refused("23: UNKNOWN of -1", way, k -> k.dispute(-1, what), Edge.UNKNOWN);
        }
    }

    /** "since: 0 or more", "dwell: 0 to 9999." */
    private static void distances() {
        Keys.Way way = ToldEdgesTest::some;
        Edge.tellsFloat("24: the least dwell", Edge.NEW, k -> k.distance(0, 0, 0), 1.0f);
        Edge.tellsFloat("24: the greatest dwell", Edge.NEW, k -> k.distance(0, 0, 9999), (9999.0f - 4.0f) / 4.0f);
        Edge.tellsFloat("24: the least since", Edge.NEW, k -> k.distance(1, 0, 8), 0.0f);
        Edge.tellsFloat("24: the greatest since, no gap", Edge.NEW, k -> k.distance(1, MOST, 8), 0.0f);
        Edge.tellsFloat("24: the least since, with a gap", way, k -> k.distance(1, 0, 8), 4.0f / 10.0f * 0.5f);
        Edge.tellsFloat("24: since 1", way, k -> k.distance(1, 1, 8), 5.0f / 10.0f * 0.5f);
        int[] noDwells = {-1, 10000, 10001, LEAST, MOST, 65536};
        for (int dwell : noDwells) {
            Edge.noNumber("24: a NaN of dwell " + dwell, way, k -> k.distance(0, 0, dwell));
            Edge.noNumber("24: a NaN of dwell " + dwell, way, k -> k.distance(1, 9, dwell));
            Edge.noNumber("24: a NaN of all", way, k -> k.distance(2, -1, dwell));
        }
        int[] noSinces = {-1, -2, LEAST, -65536};
        for (int since : noSinces) {
            Edge.noNumber("24: a NaN of since " + since, way, k -> k.distance(0, since, 4));
            Edge.noNumber("24: a NaN of since " + since, Edge.NEW, k -> k.distance(1, since, 4));
        }
    }

    /** "if it ended in the tick that comes now (whatever is down)": tick by tick, with the row driven and not. */
    private static void verdicts() {
        // from both: 1 tick 0.75 and 0.875, 5 ticks 0.25 and 0.375; 6 ticks 0.5 and 0.25
        int[] due = {0, 0, 0, 0, 0, 1, 1, 1, 1};
        for (int i = 1; i <= 9; i++) {
            int ticks = i;
            Keys.Way way = k -> {
                k.build(6, 2);
                k.press(1, 0);
                k.tick(ticks);
            };
            Edge.tells("25: after " + ticks, way, k -> k.verdict(0), due[ticks - 1]);
            Edge.tells("25: up, after " + ticks, Whole.then(way, k -> k.release(1, 0)), k -> k.verdict(0), due[ticks - 1]);
        }
        Keys.Way six = k -> {
            k.build(6, 2);
            k.press(1, 0);
            k.tick(6);
        };
        Edge.tells("25: foretold", six, k -> k.verdict(0), 1);
        Edge.tells("25: and so it comes", Whole.then(six, k -> {
            k.release(1, 0);
            k.tick(1);
        }), k -> k.stroke(0, 3), 1);
        Due.same("25: telling changes nothing", Whole.all(Whole.then(six, k -> k.verdict(0))), Whole.all(six));
        Keys.Way ended = Whole.then(six, k -> {
            k.release(1, 0);
            k.tick(1);
        });
        Edge.refused("25: NONE if it is not seen any more", ended, k -> k.verdict(0), Edge.NONE);
        Edge.refused("25: NONE if it is down, but not seen", k -> k.press(0, 0), k -> k.verdict(0), Edge.NONE);
        Edge.tells("25: 2 for a ghost", k -> {
            k.build(2, 2);
            k.press(0, 0);
            k.press(0, 1);
            k.press(0, 2);
            k.tick(2);
        }, k -> k.verdict(3), 2);
        Edge.tells("25: 3 for a dispute", k -> {
            k.set(0, Edge.bits(2.0f));
            k.press(0, 0);
            k.tick(1);
        }, k -> k.verdict(0), 3);
    }

    /** "plus 100": below it, at it and above it; "itself not counted". */
    private static void ghosts() {
        Keys.Way three = k -> {
            k.build(2, 2);
            k.press(0, 0);
            k.press(0, 1);
            k.press(0, 2);
        };
        int[] due = {101, 101, 101, 100};
        for (int i = 0; i < 4; i++) {
            int key = i;
            Edge.tells("26: three down, key " + key, three, k -> k.ghostsBy(key), due[key]);
            Keys.Way two = Whole.then(three, k -> k.release(0, 0));
            // 1 and 2 are down: 0 would make 3 a ghost, 3 would make 0 one
            int dueOfTwo = key == 0 || key == 3 ? 99 : 100;
            Edge.tells("26: two down, key " + key, two, k -> k.ghostsBy(key), dueOfTwo);
            Keys.Way four = Whole.then(three, k -> k.press(1, 3));
            // without one of four that one alone is a ghost, which is not counted
            Edge.tells("26: four down, key " + key, four, k -> k.ghostsBy(key), 100);
        }
        Keys.Way most = k -> {
            k.build(6, 8);
            for (int i = 1; i <= 5; i++) {
                k.press(0, i * 8);
                k.press(1, i);
            }
        };
        Edge.tells("26: many fewer than 100", most, k -> k.ghostsBy(0), 75);
        Keys.Way joined = k -> {
            most.on(k);
            k.release(1, 5);
            k.press(1, 0);
        };
        Edge.tells("26: many more than 100", joined, k -> k.ghostsBy(0), 120);
        Edge.tells("26: one row of them", joined, k -> k.ghostsBy(8), 104);
        Edge.tells("26: one column of them", joined, k -> k.ghostsBy(1), 105);
        Edge.tells("26: a key of a column apart would make five", joined, k -> k.ghostsBy(7), 95);
        Edge.tells("26: whatever is seen", Whole.then(joined, k -> k.tick(7)), k -> k.ghostsBy(0), 120);
        Due.same("26: telling changes nothing", Whole.all(Whole.then(joined, k -> k.ghostsBy(0))), Whole.all(joined));
    }

    /** what of count(): 0 to 15. */
    private static void counts() {
        int[] wrong = {-1, 16, LEAST, MOST, 256};
        for (int what : wrong) {
            Edge.refused("27: BAD_VALUE of what " + what, ToldEdgesTest::some, k -> k.count(what), Edge.BAD_VALUE);
        }
        int[] atFirst = {0, 4, 6, 0, 0, 0, 0, 0, 0, 0, 0, 0, 0, 0, 0, 0};
        int[] then = {25, 2, 3, 2, 1, 0, 3, 2, 0, 1, 1, 2, 0, 1, 4, 1};
        for (int i = 0; i <= 15; i++) {
            int what = i;
            Edge.tells("27: count(" + what + ") at first", Edge.NEW, k -> k.count(what), atFirst[what]);
            Edge.tells("27: count(" + what + ")", Whole.then(ToldEdgesTest::some, k -> k.type('x')), k -> k.count(what), then[what]);
        }
        Keys.Way wrongly = k -> {
            k.build(2, 2);
            k.set(1, 0);
            Edge.strikeOfTwoRows(k, 1, 0, 4);
            k.press(0, 0);
            k.press(0, 1);
            k.press(0, 2);
            k.tick(2);
            k.release(0, 2);
            k.tick(2);
        };
        Edge.tells("27: credited, but not rightly", wrongly, k -> k.count(7) * 10 + k.count(11), 10);
        Edge.tells("27: two ghosts, one of nobody", wrongly, k -> k.count(8) * 10 + k.count(12), 21);
    }

    /** What is counted grows by each of its kind, and stays with each of another, also when there are many. */
    private static void countsGrow() {
        Keys k = Edge.after(ToldEdgesTest::seventeenDisputes);
        Due.is("27: disputes", k.count(10), 17);
        int[] credited = new int[2];
        int[] rightly = new int[2];
        int ghosts = 0;
        int ofNobody = 0;
        int[] whos = {0, 1, 2, 0, 1, 0, 2, 1, 2, 2, 0, 1, 2, 2, 2, 0, 2};
        for (int i = 0; i < 17; i++) {
            int who = whos[i];
            int holder = i < 8 ? i / 4 : i % 3 == 0 ? Edge.NONE : 0;
            Due.is("23: true holder of " + i, k.dispute(i, 4), holder);
            k.settle(i, who);
            if (who == 2) {
                ghosts++;
                ofNobody += holder == Edge.NONE ? 1 : 0;
            } else {
                credited[who]++;
                rightly[who] += holder == who ? 1 : 0;
            }
            for (int typist = 0; typist < 2; typist++) {
                Due.is("18: credited, " + i, k.typist(typist, 4), credited[typist]);
                Due.is("18: rightly, " + i, k.typist(typist, 5), rightly[typist]);
            }
            Due.is("27: credited, " + i, k.count(7), credited[0] + credited[1]);
            Due.is("27: rightly, " + i, k.count(11), rightly[0] + rightly[1]);
            Due.is("27: ghosts, " + i, k.count(8), ghosts);
            Due.is("27: ghosts without a true holder, " + i, k.count(12), ofNobody);
            Due.is("27: open disputes, " + i, k.count(9), 16 - i);
        }
        Due.is("27: two ghosts without a true holder", k.count(12), 2);
    }

    /** Four of strokes of 0, four of strokes of 1, and three times one of 0, one of a ghost, and one of 0 again. */
    private static void seventeenDisputes(Keys k) {
        k.build(2, 3);
        k.set(0, Edge.bits(2.0f));
        for (int i = 0; i < 8; i++) {
            Edge.strikeOfTwoRows(k, i / 4, 2, 4);
        }
        for (int i = 0; i < 3; i++) {
            k.press(0, 0);
            k.press(0, 3);
            k.press(0, 4);
            k.tick(1);
            k.release(0, 4);
            k.tick(1);
            k.release(0, 0);
            k.release(0, 3);
            k.tick(2);
        }
    }

    /** The 512th call of a new object is promised still. */
    private static void lastCall() {
        Keys.Way strokes = k -> {
            k.build(2, 2);
            for (int i = 0; i < 127; i++) {
                Edge.strikeOfTwoRows(k, 0, i % 2, 4);
            }
            k.keep();
            k.tick(1);
        };
        Edge.tells("the 512th call: strokes", strokes, k -> k.count(6), 127);
        Edge.tells("the 512th call: ticks", strokes, k -> k.count(0), 127 * 6 + 1);
        Edge.tells("the 512th call: states", strokes, k -> k.count(14), 4);
        Edge.tells("the 512th call: the 16th before", strokes, k -> k.stroke(15, 1), 111 * 6);
        Edge.tells("the 512th call: not the 17th", strokes, k -> k.stroke(16, 1), Edge.NONE);
        Edge.tells("the 512th call: credited", strokes, k -> k.typist(0, 4), 127);
        Edge.tells("the 512th call: undo", strokes, Keys::undo, 3);
        Edge.tells("the 512th call: restore", strokes, Keys::restore, 127 * 6);
        Edge.tells("the 512th call: tick", strokes, k -> k.tick(99), 0);
        Edge.tells("the 512th call: press", strokes, k -> k.press(0, 3), 1);
        Edge.tells("the 512th call: build", strokes, k -> k.build(6, 8), 48);
        Edge.tells("the 512th call: type", strokes, k -> k.type('x'), 1);
        // the most ticks that there can be, with a key held down in all of them
        Keys.Way ticks = k -> {
            k.build(2, 2);
            for (int i = 0; i < 14; i++) {
                Edge.write(k, "t99;");
            }
            Edge.write(k, "t99");
            k.press(0, 0);
            for (int i = 0; i < 448; i++) {
                k.perform();
            }
            k.release(0, 0);
            k.tick(2);
        };
        int dwell = 448 * 15 * 99;
        Edge.tells("the 512th call: far ticks", ticks, k -> k.count(0), dwell + 2);
        Edge.tells("the 512th call: a long dwell", ticks, k -> k.stroke(0, 2), dwell);
        Edge.tells("the 512th call: nearest to 1", ticks, k -> k.stroke(0, 3), 1);
        float off = dwell - 8.0f;
        Edge.tellsFloat("the 512th call: learned", ticks, k -> k.style(1, 0), 8.0f + off * 0.25f);
        Edge.tells("the 512th call: in hundredths", ticks, k -> k.hundredths(1, 0), (int) ((8.0f + off * 0.25f) * 100.0f));
    }

    public static void main(String[] args) {
        keys();
        keyWhat();
        doubtfulAndSeen();
        typists();
        typistWhat();
        hundredths();
        typed();
        strokes();
        disputes();
        distances();
        verdicts();
        ghosts();
        counts();
        countsGrow();
        lastCall();
        Due.tell();
    }
}
