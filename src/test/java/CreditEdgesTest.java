/** Each sentence of "NUMBERS", "STYLES", "CREDIT" and of the promise 10 that names a boundary, on both of its sides. */
public final class CreditEdgesTest {
    private static final int WIDE = Edge.bits(2.0f);
    private static final int ZERO = 0;
    private static final int LEAST_FLOAT = 1;

    private CreditEdgesTest() {
    }

    /** A keyboard of two rows with a wide margin, on which strokes become disputes. */
    private static void disputing(Keys k) {
        k.build(2, 4);
        k.set(0, WIDE);
    }

    private static Keys.Way disputes(int number) {
        return k -> {
            disputing(k);
            for (int i = 0; i < number; i++) {
                Edge.strikeOfTwoRows(k, i % 2, i % 3, 2);
            }
        };
    }

    /** Two rows and two columns; the keys 2 and 3 are seen since the tick 1, and doubtful, and end with this dwell. */
    private static Keys.Way doubtful(int trust, int dwell) {
        return k -> {
            k.build(2, 2);
            k.set(2, ZERO);
            k.set(1, trust);
            k.press(0, 0);
            k.press(0, 1);
            k.press(0, 2);
            k.tick(1);
            k.tick(dwell);
            k.release(0, 2);
            k.tick(1);
        };
    }

    /** A key of the row 0 alone, seen for this dwell, which is as many rounds as it may be. */
    private static Keys.Way single(int rows, int margin, int dwell) {
        return k -> {
            k.build(rows, 2);
            k.set(0, margin);
            Edge.strike(k, 0, 0, dwell);
        };
    }

    /** Two strokes of each at an uneven rate, by which both have an uneven style. */
    private static void uneven(Keys k) {
        k.build(3, 2);
        k.set(2, Edge.bits(0.3f));
        int[] dwells = {9, 9, 3, 3};
        for (int i = 0; i < 4; i++) {
            Edge.strike(k, i % 2, 0, dwells[i]);
            k.tick(5);
        }
    }

    /** "Each operation with them is done in floats, rounded by itself": distances. */
    private static void distancesInFloats() {
        int otherInDoubles = 0;
        for (int from = 0; from < 9800; from += 400) {
            Keys k = Edge.after(CreditEdgesTest::uneven);
            float dwells = k.style(0, 0);
            float gaps = k.style(0, 1);
            int last = k.typist(0, 7);
            for (int dwell = from; dwell < from + 400; dwell++) {
                int since = dwell * 3 + last;
                float offDwell = dwell - dwells;
                float dwellPart = (offDwell < 0 ? -offDwell : offDwell) / dwells;
                float offGap = dwell * 3 - gaps;
                float gapPart = (offGap < 0 ? -offGap : offGap) / gaps;
                float half = gapPart * 0.5f;
                float due = dwellPart + half;
                double inDoubles = Math.abs((double) dwell - dwells) / dwells + Math.abs((double) dwell * 3 - gaps) / gaps * 0.5;
                otherInDoubles += (float) inDoubles != due ? 1 : 0;
                Due.is("24: distance of the dwell " + dwell, k.distance(0, since, dwell), due);
            }
        }
        Due.is("24: doubles would show", otherInDoubles > 1000 ? 1 : 0, 1);
    }

    /** "Each operation with them is done in floats, rounded by itself": learning. */
    private static void learningInFloats() {
        int otherInDoubles = 0;
        for (int i = 1; i <= 200; i++) {
            float rate = i / 201.0f;
            Keys k = new RealKeys();
            k.build(3, 2);
            k.set(2, Edge.bits(rate));
            float dwells = 4.0f;
            float gaps = 6.0f;
            for (int j = 0; j < 3; j++) {
                Edge.strike(k, 0, 0, 3);
                k.tick(2 + 3 * j);
                float stepDwell = (3.0f - dwells) * rate;
                otherInDoubles += (float) (dwells + (3.0 - dwells) * (double) rate) != dwells + stepDwell ? 1 : 0;
                dwells = dwells + stepDwell;
                if (j > 0) {
                    float stepGap = (6.0f + 3 * (j - 1) - gaps) * rate;
                    gaps = gaps + stepGap;
                }
                Due.is("9: mean dwell at the rate " + rate, k.style(0, 0), dwells);
                Due.is("9: mean gap at the rate " + rate, k.style(0, 1), gaps);
                Due.is("20: in hundredths", k.hundredths(0, 0), (int) (dwells * 100.0f));
            }
        }
        Due.is("9: doubles would show", otherInDoubles > 0 ? 1 : 0, 1);
    }

    /** "The rate is from 0.0f to 1.0f": with the least one nothing is learned but l, with the greatest one all. */
    private static void rates() {
        float[] rates = {0.0f, 1.0f};
        for (float rate : rates) {
            Keys.Way way = k -> {
                k.build(2, 2);
                k.set(0, ZERO);
                k.set(2, Edge.bits(rate));
                Edge.strikeOfTwoRows(k, 0, 0, 2);
                Edge.strikeOfTwoRows(k, 0, 0, 2);
            };
            Edge.tells("9: both to 0, at " + rate, way, k -> k.typist(0, 4), 2);
            Edge.tellsFloat("9: mean dwell at " + rate, way, k -> k.style(0, 0), rate == 0.0f ? 4.0f : 2.0f);
            Edge.tellsFloat("9: mean gap at " + rate, way, k -> k.style(0, 1), rate == 0.0f ? 6.0f : 4.0f);
            Edge.tells("9: l at " + rate, way, k -> k.typist(0, 7), 4);
        }
    }

    /** "but each of both at least 0.5f": just above it a mean stays as it is learned. */
    private static void leastMean() {
        float[] rates = {0.875f, 0.9f, 0.9166665f, 0.9166667f, 0.91666675f, 0.9375f, 1.0f};
        for (int i = 0; i < rates.length; i++) {
            float rate = rates[i];
            Keys.Way way = k -> {
                disputing(k);
                k.set(2, Edge.bits(rate));
                k.press(0, 0);
                k.press(0, 1);
                k.tick(4);
                k.release(0, 0);
                k.release(0, 1);
                k.tick(2);
                k.settle(0, 0);
                k.settle(1, 0);
            };
            float step = (0.0f - 6.0f) * rate;
            float learned = 6.0f + step;
            Due.is("9: above, at, or below 0.5 at " + rate, learned > 0.5f ? 1 : learned < 0.5f ? -1 : 0, i < 3 ? 1 : i > 3 ? -1 : 0);
            Edge.tellsFloat("9: mean gap at " + rate, way, k -> k.style(0, 1), learned > 0.5f ? learned : 0.5f);
            Edge.tellsFloat("9: mean dwell at " + rate, way, k -> k.style(0, 0), 4.0f);
            Edge.tells("20: at least 50", way, k -> k.hundredths(0, 1), learned > 0.5f ? (int) (learned * 100.0f) : 50);
        }
    }

    /** "no gap if there is none": of the first stroke neither distance nor mean gap know one. */
    private static void noGapAtFirst() {
        Keys.Way first = k -> {
            k.build(2, 2);
            k.tick(10);
            Edge.strikeOfTwoRows(k, 0, 0, 4);
        };
        Edge.tellsFloat("24: no gap yet", k -> k.tick(99), k -> k.distance(0, 50, 4), 0.0f);
        Edge.tellsFloat("9: no gap learned", first, k -> k.style(0, 1), 6.0f);
        Edge.tells("9: l then", first, k -> k.typist(0, 7), 10);
        Edge.tellsFloat("24: gap 6", first, k -> k.distance(0, 16, 4), 0.0f);
        Edge.tellsFloat("24: gap 5", first, k -> k.distance(0, 15, 4), 1.0f / 6.0f * 0.5f);
        Edge.tellsFloat("24: gap 7", first, k -> k.distance(0, 17, 4), 1.0f / 6.0f * 0.5f);
        Edge.tellsFloat("24: gap 0", first, k -> k.distance(0, 10, 4), 0.5f);
        Edge.tellsFloat("24: gap 1, before l", first, k -> k.distance(0, 9, 4), 5.0f / 6.0f * 0.5f);
        Edge.tellsFloat("24: gap 6, before l", first, k -> k.distance(0, 4, 4), 0.0f);
        Edge.tellsFloat("24: gap 10, since the tick 0", first, k -> k.distance(0, 0, 4), 4.0f / 6.0f * 0.5f);
        Edge.tellsFloat("24: the other one has none", first, k -> k.distance(1, 10, 8), 0.0f);
        // l is the tick 0, which is one as any other
        Keys.Way zero = k -> {
            k.build(2, 2);
            Edge.strikeOfTwoRows(k, 0, 0, 4);
        };
        Edge.tells("9: l is 0", zero, k -> k.typist(0, 7), 0);
        Edge.tellsFloat("24: gap 0 from the tick 0", zero, k -> k.distance(0, 0, 4), 0.5f);
    }

    /** l is that of strokes that were credited by style or by hand, not of others. */
    private static void lastCredited() {
        Keys.Way way = k -> {
            k.build(2, 4);
            k.setShift(0, 1);
            Edge.strikeOfTwoRows(k, 0, 0, 4);
            Edge.strikeOfTwoRows(k, 0, 1, 4);
        };
        Edge.tells("9: a shift is credited", way, k -> k.typist(0, 4), 2);
        Edge.tells("9: but l stays", way, k -> k.typist(0, 7), 0);
        Keys.Way open = Whole.then(way, k -> {
            k.set(0, WIDE);
            Edge.strikeOfTwoRows(k, 0, 0, 4);
        });
        Edge.tells("9: a dispute is none yet", open, k -> k.count(9) * 100 + k.typist(0, 7), 100);
        Edge.tells("10: a ghost by hand", Whole.then(open, k -> k.settle(0, 2)), k -> k.typist(0, 7), 0);
        Edge.tells("10: by hand", Whole.then(open, k -> k.settle(0, 0)), k -> k.typist(0, 7), 12);
        Edge.tells("10: by hand, of the other", Whole.then(open, k -> k.settle(0, 1)), k -> k.typist(1, 7), 12);
        Edge.tells("10: not of this one", Whole.then(open, k -> k.settle(0, 1)), k -> k.typist(0, 7), 0);
        Edge.tells("9: a ghost", doubtful(ZERO, 2), k -> k.typist(0, 7), Edge.NONE);
        Edge.tells("9: a doubtful one that is credited", doubtful(Edge.bits(0.5f), 2), k -> k.typist(0, 7), 1);
    }

    /** "If |..| is less than the margin, it is a dispute; otherwise it is credited": to the bit. */
    private static void margins() {
        // 5 ticks: 0.25 and 0.375; 6 ticks: 0.5 and 0.25; 4 ticks: 0 and 0.5
        int[][] cases = {{5, Edge.bits(0.125f), 0}, {6, Edge.bits(0.25f), 1}, {4, Edge.bits(0.5f), 0}};
        for (int[] one : cases) {
            int rows = one[0];
            for (int more = -1; more <= 1; more++) {
                int margin = one[1] + more;
                int due = more > 0 ? 3 : one[2];
                Edge.tells("9: " + rows + " ticks, the margin " + more, single(rows, margin, rows), k -> k.stroke(0, 3), due);
                Keys.Way seen = k -> {
                    k.build(rows, 2);
                    k.set(0, margin);
                    k.press(0, 0);
                    k.tick(rows);
                };
                Edge.tells("25: " + rows + " ticks, the margin " + more, seen, k -> k.verdict(0), due);
            }
        }
        Edge.tells("9: the greatest margin, 14 ticks are 1.75 apart", single(2, WIDE, 14), k -> k.stroke(0, 3), 3);
        Edge.tells("9: the greatest margin, 16 ticks are 2.0 apart", single(2, WIDE, 16), k -> k.stroke(0, 3), 1);
        Edge.tells("9: just below the greatest, 16 ticks", single(2, WIDE - 1, 16), k -> k.stroke(0, 3), 1);
        Edge.tells("9: at first, 5 ticks", k -> {
            k.build(5, 2);
            Edge.strike(k, 0, 0, 5);
        }, k -> k.stroke(0, 3), 0);
    }

    /** Two strokes of one tick: the second one has the distance 0.5 from both, of which 0 is taken if there is no margin. */
    private static Keys.Way tie(int margin) {
        return k -> {
            k.build(4, 3);
            k.set(0, margin);
            k.press(1, 0);
            k.press(1, 1);
            k.tick(4);
            k.release(1, 0);
            k.release(1, 1);
            k.tick(1);
        };
    }

    private static void ties() {
        Edge.tells("9: the least margin, none is less", tie(ZERO), k -> k.stroke(0, 3), 0);
        Edge.tells("9: no dispute", tie(ZERO), k -> k.count(10), 0);
        Edge.tells("9: the least float is more", tie(LEAST_FLOAT), k -> k.stroke(0, 3), 3);
        Edge.tells("9: the first one is no tie", tie(LEAST_FLOAT), k -> k.stroke(1, 3), 0);
        // a doubtful tie: 4 ticks, and the second one again has 0.5 from both
        Edge.tells("9: of the same, the typist 0", doubtful(Edge.bits(0.5f), 4), k -> k.stroke(0, 3), 0);
        Edge.tells("9: beyond the trust it is a ghost", doubtful(Edge.bits(0.5f) - 1, 4), k -> k.stroke(0, 3), 2);
    }

    /** "not greater than the trust": to the bit; the key 2 is the first of both that end. */
    private static void trusts() {
        int half = Edge.bits(0.5f);
        Edge.tells("9: 0.5, at first", doubtful(half, 2), k -> k.stroke(1, 0) * 10 + k.stroke(1, 3), 20);
        Edge.tells("9: 0.5, a bit more", doubtful(half + 1, 2), k -> k.stroke(1, 3), 0);
        Edge.tells("9: 0.5, a bit less", doubtful(half - 1, 2), k -> k.stroke(1, 3), 2);
        Edge.tells("9: the least trust, 4 ticks have the distance 0", doubtful(ZERO, 4), k -> k.stroke(1, 3), 0);
        Edge.tells("9: the least trust, 6 ticks have not", doubtful(ZERO, 6), k -> k.stroke(1, 3), 2);
        Edge.tells("9: the least trust, 8 ticks, of 1", doubtful(ZERO, 8), k -> k.stroke(1, 3), 1);
        int most = Edge.bits(4.0f);
        Edge.tells("9: the greatest trust, 40 ticks are 4.0 off", doubtful(most, 40), k -> k.stroke(1, 3), 1);
        Edge.tells("9: a bit less than that", doubtful(most - 1, 40), k -> k.stroke(1, 3), 2);
        Edge.tells("9: the greatest trust, 42 ticks are more", doubtful(most, 42), k -> k.stroke(1, 3), 2);
        Keys.Way wide = Whole.then(k -> k.set(0, WIDE), doubtful(half, 2));
        Edge.tells("9: no margin for the doubtful", wide, k -> k.stroke(1, 3), 0);
        Edge.tells("9: nor a dispute", wide, k -> k.count(10), 0);
        Edge.tells("9: who is credited learns, l", doubtful(half, 2), k -> k.typist(0, 7), 1);
        Edge.tells("9: of a ghost nobody learns", doubtful(half - 1, 2), k -> k.typist(0, 7), Edge.NONE);
        Edge.tells("9: nobody at all", doubtful(half - 1, 2), k -> k.typist(1, 7), Edge.NONE);
        Edge.tells("9: ghosts", doubtful(half - 1, 2), k -> k.count(8), 2);
        Edge.tells("9: ghosts without a true holder", doubtful(half - 1, 2), k -> k.count(12), 1);
    }

    /** "The margin .. (at first 0.125f)": two distances that are as far apart, and a float nearer. */
    private static void marginAtFirst() {
        // learned from 3 ticks, the mean dwell is 4.0f still, or the float below it
        float[] rates = {0.0f, 1.0f / (1 << 22)};
        for (float rate : rates) {
            Keys.Way way = k -> {
                k.build(3, 3);
                k.set(2, Edge.bits(rate));
                k.press(0, 2);
                k.tick(3);
                k.release(0, 2);
                k.tick(3);
                k.press(0, 0);
                k.tick(5);
            };
            Edge.tells("9: since the tick 6, so that the gap is 6", way, k -> k.key(0, 2), 6);
            Edge.tells("25: 5 ticks at the rate " + rate, way, k -> k.verdict(0), rate == 0.0f ? 0 : 3);
        }
    }

    /** "the trust .. (at first 0.5f)": a distance that is as great, and a float greater. */
    private static void trustAtFirst() {
        // learned from 5 ticks, the mean dwell is 4.0f still, or the float above it
        float[] rates = {0.0f, 1.0f / (1 << 21)};
        for (float rate : rates) {
            Keys.Way way = k -> {
                k.build(5, 3);
                k.set(2, Edge.bits(rate));
                k.press(0, 2);
                k.tick(5);
                k.release(0, 2);
                k.press(0, 0);
                k.press(0, 1);
                k.tick(1);
                k.press(0, 3);
                k.tick(2);
            };
            Edge.tells("9: since the tick 6, so that the gap is 6", way, k -> k.key(3, 2), 6);
            Edge.tells("9: doubtful", way, k -> k.key(3, 3), 1);
            Edge.tells("25: 2 ticks at the rate " + rate, way, k -> k.verdict(3), rate == 0.0f ? 0 : 2);
        }
    }

    /** The margin to the bit, wherever uneven styles bring the two distances. */
    private static void marginsToTheBit() {
        Edge.tells("9: two strokes went to 0", CreditEdgesTest::uneven, k -> k.typist(0, 4), 2);
        Edge.tells("9: two strokes went to 1", CreditEdgesTest::uneven, k -> k.typist(1, 4), 2);
        int otherInDoubles = 0;
        for (int i = 0; i < 600; i++) {
            int idle = 3 + i / 30 * 3;
            int dwell = 1 + i % 30;
            Keys k = Edge.after(x -> {
                uneven(x);
                x.tick(idle);
                x.press(0, 0);
                x.tick(dwell);
            });
            int since = k.key(0, 2);
            float first = k.distance(0, since, dwell);
            float second = k.distance(1, since, dwell);
            float apart = first - second;
            float margin = apart < 0 ? -apart : apart;
            int nearest = first <= second ? 0 : 1;
            if (margin < 2.0f) {
                Due.is("25: the margin itself, " + i, setAndVerdict(k, 0, Edge.bits(margin)), nearest);
                Due.is("25: a bit more, " + i, setAndVerdict(k, 0, Edge.bits(margin) + 1), 3);
                otherInDoubles += Math.abs((double) first - second) < margin ? 1 : 0;
            }
        }
        Due.is("25: doubles would show", otherInDoubles > 0 ? 1 : 0, 1);
    }

    /** The trust to the bit, wherever uneven styles bring the nearest distance. */
    private static void trustsToTheBit() {
        for (int i = 1; i <= 30; i++) {
            int dwell = i;
            Keys k = Edge.after(x -> {
                uneven(x);
                x.press(0, 0);
                x.press(0, 1);
                x.press(0, 2);
                x.tick(1 + dwell);
            });
            int since = k.key(2, 2);
            float first = k.distance(0, since, dwell);
            float second = k.distance(1, since, dwell);
            int nearest = first <= second ? 0 : 1;
            float least = nearest == 0 ? first : second;
            Due.is("17: doubtful", k.key(2, 3), 1);
            Due.is("25: the trust itself, dwell " + dwell, setAndVerdict(k, 1, Edge.bits(least)), nearest);
            Due.is("25: a bit less, dwell " + dwell, setAndVerdict(k, 1, Edge.bits(least) - 1), 2);
        }
    }

    private static int setAndVerdict(Keys k, int what, int bits) {
        k.set(what, bits);
        return k.verdict(what == 0 ? 0 : 2);
    }

    /** "If its key is a shift: if it is doubtful, it is a ghost, otherwise it is credited": whatever margin and trust are. */
    private static void shifts() {
        for (int i = 0; i < 2; i++) {
            int owner = i;
            Keys.Way sure = k -> {
                disputing(k);
                k.setShift(owner, 0);
                Edge.strikeOfTwoRows(k, 1 - owner, 0, 2);
            };
            Edge.tells("9: credited to the typist whose shift it is", sure, k -> k.stroke(0, 3), owner);
            Edge.tells("9: nobody learns, l", sure, k -> k.typist(owner, 7), Edge.NONE);
            Edge.tells("9: no dispute", sure, k -> k.count(10), 0);
            Edge.tells("9: no sign", sure, k -> k.typist(owner, 6), 0);
            Keys.Way unsure = k -> {
                k.setShift(owner, 2);
                doubtful(Edge.bits(4.0f), 4).on(k);
            };
            Edge.tells("9: build takes the shift", unsure, k -> k.stroke(1, 3), 0);
            Keys.Way doubt = k -> {
                k.build(2, 2);
                k.setShift(owner, 2);
                k.set(1, Edge.bits(4.0f));
                k.press(0, 0);
                k.press(0, 1);
                k.press(0, 2);
                k.tick(5);
                k.release(0, 2);
                k.tick(1);
            };
            Edge.tells("9: a doubtful shift is a ghost", doubt, k -> k.stroke(1, 0) * 10 + k.stroke(1, 3), 22);
            Edge.tells("9: the one beside it is not", doubt, k -> k.stroke(0, 3), 0);
            Edge.tells("9: it has a true holder", doubt, k -> k.count(8) * 10 + k.count(12), 10);
        }
    }

    /** "If its key is a shift": as it is when the stroke ends. */
    private static void shiftAtTheEnd() {
        Keys.Way made = k -> {
            k.build(2, 4);
            k.press(0, 0);
            k.tick(2);
            k.setShift(1, 0);
            k.release(0, 0);
            k.tick(2);
        };
        Edge.tells("9: a shift by its end", made, k -> k.stroke(0, 3), 1);
        Edge.tells("9: nobody learns", made, k -> k.typist(1, 7), Edge.NONE);
        Edge.tells("9: it was none when noted", made, k -> k.stroke(0, 5), 0);
        Keys.Way unmade = k -> {
            k.build(2, 4);
            k.setShift(1, 0);
            k.press(0, 0);
            k.tick(2);
            k.setSign(0, 'q');
            k.release(0, 0);
            k.tick(2);
        };
        Edge.tells("9: none by its end", unmade, k -> k.stroke(0, 3), 0);
        Edge.tells("9: which is learned", unmade, k -> k.typist(0, 7), 0);
        Edge.tells("9: and typed, as 1's shift was on, small", unmade, k -> k.typed(0, 0), 'q');
        Edge.tells("9: it was one when noted", unmade, k -> k.stroke(0, 5), 2);
    }

    /** "there are at most 20 ever; if there have been 20, the stroke is a ghost instead." */
    private static void twentyDisputes() {
        Keys.Way nineteen = disputes(19);
        Keys.Way twenty = disputes(20);
        Edge.tells("27: 19 have been", nineteen, k -> k.count(10), 19);
        Edge.tells("23: there is no 19", nineteen, k -> k.dispute(19, 0), Edge.UNKNOWN);
        Keys.Way seen = k -> {
            k.press(0, 1);
            k.tick(2);
        };
        Keys.Way ended = k -> {
            k.release(0, 1);
            k.tick(2);
        };
        Edge.tells("25: it would be the 20th", Whole.then(nineteen, seen), k -> k.verdict(1), 3);
        Edge.tells("25: in place of the 21st", Whole.then(twenty, seen), k -> k.verdict(1), 2);
        Keys.Way twentieth = Whole.then(Whole.then(nineteen, seen), ended);
        Edge.tells("9: the 20th", twentieth, k -> k.stroke(0, 3), 3);
        Edge.tells("23: its number is 19", twentieth, k -> k.dispute(19, 0), 1);
        Edge.tells("27: 20 have been", twentieth, k -> k.count(10), 20);
        Edge.tells("27: no ghost", twentieth, k -> k.count(8), 0);
        Keys.Way more = Whole.then(Whole.then(twenty, seen), ended);
        Edge.tells("9: the 21st is a ghost", more, k -> k.stroke(0, 3), 2);
        Edge.tells("27: a ghost", more, k -> k.count(8), 1);
        Edge.tells("27: 20 ever", more, k -> k.count(10), 20);
        Edge.tells("23: there is no 20", more, k -> k.dispute(20, 0), Edge.UNKNOWN);
        Edge.tells("9: nobody learns", more, k -> k.typist(0, 7), Edge.NONE);
        Edge.refused("10: UNKNOWN of 20", more, k -> k.settle(20, 0), Edge.UNKNOWN);
        Keys.Way settled = k -> {
            twenty.on(k);
            for (int i = 0; i < 20; i++) {
                k.settle(i, 2);
            }
            seen.on(k);
            ended.on(k);
        };
        Edge.tells("9: ever, though all are settled", settled, k -> k.stroke(0, 3), 2);
        Edge.tells("27: none is open", settled, k -> k.count(9), 0);
        Edge.tells("27: 21 ghosts", settled, k -> k.count(8), 21);
        int[] outer = {0, 19};
        for (int dispute : outer) {
            Edge.tells("23: open, of twenty", twenty, k -> k.dispute(dispute, 3), Edge.NONE);
            Edge.act("10: settle, of twenty", twenty, k -> k.settle(dispute, 1), dispute % 3);
            Keys.Way done = Whole.then(twenty, k -> k.settle(dispute, 1));
            Edge.tells("23: settled, of twenty", done, k -> k.dispute(dispute, 3), 1);
            Edge.tells("27: nineteen are open", done, k -> k.count(9), 19);
            Edge.refused("10: NOT_POSSIBLE again, of twenty", done, k -> k.settle(dispute, 1), Edge.NOT_POSSIBLE);
        }
        Keys.Way undone = Whole.then(twenty, Keys::undo);
        Edge.tells("14: the 20th is taken back", undone, k -> k.count(10), 19);
        Edge.tells("14: and comes again", Whole.then(undone, k -> k.tick(2)), k -> k.count(10), 20);
    }

    /** Of two strokes that end in one tick, the one with the lower number becomes the 20th dispute. */
    private static void twentiethByNumber() {
        Keys.Way way = Whole.then(disputes(19), k -> {
            k.press(0, 3);
            k.press(0, 2);
            k.tick(2);
            k.release(0, 3);
            k.release(0, 2);
        });
        Edge.tells("25: both would be the 20th", way, k -> k.verdict(2) * 10 + k.verdict(3), 33);
        Edge.tells("9: both end", way, k -> k.tick(2), 2);
        Keys k = Edge.after(Whole.then(way, x -> x.tick(2)));
        Due.is("9: the lower is the dispute", k.dispute(19, 0), 2);
        Due.is("9: its stroke", k.stroke(1, 3), 3);
        Due.is("9: the higher is a ghost", k.stroke(0, 3), 2);
    }

    /** "dispute: a dispute" and "who: 0 or 1 for a typist, 2 for a ghost", with the order of the checks. */
    private static void settling() {
        Keys.Way way = disputes(3);
        int[] none = {-1, 3, 20, Integer.MIN_VALUE, Integer.MAX_VALUE, 256};
        for (int dispute : none) {
            Edge.refused("10: UNKNOWN of " + dispute, way, k -> k.settle(dispute, 0), Edge.UNKNOWN);
            Edge.refused("10: UNKNOWN before BAD_VALUE", way, k -> k.settle(dispute, 3), Edge.UNKNOWN);
        }
        Edge.refused("10: UNKNOWN, there is none", Edge.NEW, k -> k.settle(0, 0), Edge.UNKNOWN);
        int[] nobody = {-1, 3, -5, Integer.MIN_VALUE, Integer.MAX_VALUE, 256};
        for (int who : nobody) {
            Edge.refused("10: BAD_VALUE of " + who, way, k -> k.settle(1, who), Edge.BAD_VALUE);
        }
        for (int i = 0; i <= 2; i++) {
            int who = i;
            Edge.act("10: the first one, for " + who, way, k -> k.settle(0, who), 0);
            Edge.act("10: the last one, for " + who, way, k -> k.settle(2, who), 2);
            Keys.Way settled = Whole.then(way, k -> k.settle(1, who));
            Edge.tells("23: for whom", settled, k -> k.dispute(1, 3), who);
            Edge.tells("22: in its stroke", settled, k -> k.stroke(1, 3), who);
            Edge.tells("22: not in that before", settled, k -> k.stroke(2, 3), 3);
            Edge.tells("22: nor in that behind", settled, k -> k.stroke(0, 3), 3);
            Edge.tells("27: two are open", settled, k -> k.count(9), 2);
            Edge.tells("27: ghosts", settled, k -> k.count(8), who == 2 ? 1 : 0);
            Edge.tells("27: credited", settled, k -> k.count(7), who == 2 ? 0 : 1);
            Edge.tells("27: rightly, of the typist 1", settled, k -> k.count(11), who == 1 ? 1 : 0);
            for (int j = 0; j <= 2; j++) {
                int again = j;
                Edge.refused("10: NOT_POSSIBLE if it is settled", settled, k -> k.settle(1, again), Edge.NOT_POSSIBLE);
            }
            Edge.refused("10: BAD_VALUE before NOT_POSSIBLE", settled, k -> k.settle(1, 3), Edge.BAD_VALUE);
        }
    }

    /** A stroke that is not known any more is settled too, and no stroke that is known becomes what it becomes. */
    private static void settledWhenForgotten() {
        int[] since = {15, 16, 19, 20, 21, 40};
        for (int strokes : since) {
            Keys.Way way = k -> {
                disputing(k);
                Edge.strikeOfTwoRows(k, 0, 0, 2);
                k.set(0, ZERO);
                for (int i = 0; i < strokes; i++) {
                    Edge.strikeOfTwoRows(k, 0, 1, 4);
                }
            };
            Edge.tells("22: all others went to 0", way, k -> k.typist(0, 4), strokes);
            for (int i = 0; i <= 2; i++) {
                int who = i;
                Keys k = Edge.after(Whole.then(way, x -> x.settle(0, who)));
                Due.is("23: for whom", k.dispute(0, 3), who);
                for (int back = 0; back < 16; back++) {
                    Due.is("22: " + strokes + " strokes later, back " + back, k.stroke(back, 3), back == strokes ? who : 0);
                }
                Due.is("22: the 17th", k.stroke(16, 3), Edge.NONE);
            }
        }
    }

    /** "who learns from it (with the gap and the style of then)." */
    private static void settledLater() {
        Keys.Way way = k -> {
            disputing(k);
            Edge.strikeOfTwoRows(k, 0, 0, 2);
            k.set(0, ZERO);
            k.set(2, Edge.bits(0.5f));
            Edge.strikeOfTwoRows(k, 0, 0, 4);
        };
        Edge.tells("9: l of the later one", way, k -> k.typist(0, 7), 4);
        Keys.Way settled = Whole.then(way, k -> k.settle(0, 0));
        Edge.tellsFloat("10: the gap of then", settled, k -> k.style(0, 1), 6.0f + (4.0f - 6.0f) * 0.5f);
        Edge.tellsFloat("10: the style of then", settled, k -> k.style(0, 0), 4.0f + (2.0f - 4.0f) * 0.5f);
        Edge.tells("10: l of the earlier one", settled, k -> k.typist(0, 7), 0);
        Keys.Way other = Whole.then(way, k -> k.settle(0, 1));
        Edge.tellsFloat("10: the other one has no gap", other, k -> k.style(1, 1), 10.0f);
        Edge.tellsFloat("10: but learns", other, k -> k.style(1, 0), 8.0f + (2.0f - 8.0f) * 0.5f);
        Keys.Way ghost = Whole.then(way, k -> k.settle(0, 2));
        Edge.tellsFloat("10: of a ghost nobody learns", ghost, k -> k.style(0, 1), 6.0f);
    }

    /** "as a capital letter if the shift of the typist was on as it was noted, or if the typist borrows and ..". */
    private static void capitals() {
        for (int i = 0; i < 32; i++) {
            boolean isOn0 = (i & 1) != 0;
            boolean isOn1 = (i & 2) != 0;
            boolean borrows0 = (i & 4) != 0;
            boolean borrows1 = (i & 8) != 0;
            int typist = i >> 4;
            // 4 ticks go to 0, 8 ticks to 1
            Keys.Way way = k -> {
                k.build(2, 8);
                k.setShift(0, 0);
                k.setShift(1, 2);
                k.setSign(4, 'a');
                if (isOn0) {
                    k.press(1, 0);
                }
                if (isOn1) {
                    k.press(1, 2);
                }
                k.press(0, 4);
                k.tick(typist == 0 ? 4 : 8);
                k.borrow(0, borrows0);
                k.borrow(1, borrows1);
                k.release(0, 4);
                k.tick(2);
            };
            boolean isOwn = typist == 0 ? isOn0 : isOn1;
            boolean isLent = typist == 0 ? borrows0 && isOn1 : borrows1 && isOn0;
            Edge.tells("9: case " + i, way, k -> k.typed(typist, 0), isOwn || isLent ? 'A' : 'a');
            Edge.tells("9: nothing of the other, case " + i, way, k -> k.typist(1 - typist, 6), 0);
        }
    }

    /** "if the shift of the typist was on as it was noted": of a dispute too, with who borrows as the sign is typed. */
    private static void capitalsByHand() {
        for (int i = 0; i < 16; i++) {
            boolean isOn1 = (i & 1) != 0;
            boolean isOnLater = (i & 2) != 0;
            boolean borrows = (i & 4) != 0;
            int typist = i >> 3;
            Keys.Way way = k -> {
                disputing(k);
                k.setShift(1, 0);
                k.setSign(2, 'h');
                if (isOn1) {
                    k.press(1, 0);
                }
                Edge.strikeOfTwoRows(k, 0, 2, 4);
                k.release(1, 0);
                if (isOnLater) {
                    k.press(1, 0);
                }
                k.tick(2);
                k.borrow(0, borrows);
            };
            Edge.tells("10: a dispute of the letter, case " + i, way, k -> k.dispute(0, 0), 2);
            boolean isCapital = isOn1 && (typist == 1 || borrows);
            Edge.tells("10: by hand, case " + i, Whole.then(way, k -> k.settle(0, typist)), k -> k.typed(typist, 0),
                    isCapital ? 'H' : 'h');
        }
    }

    /** The first and the last letter, small and large, and a key without one. */
    private static void letters() {
        char[] signs = {'a', 'z', 'm'};
        for (char sign : signs) {
            Keys.Way way = k -> {
                k.build(2, 4);
                k.setShift(0, 1);
                k.setSign(0, sign);
                Edge.strikeOfTwoRows(k, 0, 0, 4);
                k.press(0, 1);
                Edge.strikeOfTwoRows(k, 0, 0, 4);
            };
            Edge.tells("9: small", way, k -> k.typed(0, 1), sign);
            Edge.tells("9: large", way, k -> k.typed(0, 0), sign - 32);
        }
        Keys.Way none = k -> {
            k.build(2, 4);
            Edge.strikeOfTwoRows(k, 0, 0, 4);
        };
        Edge.tells("9: without a sign nothing is typed", none, k -> k.typist(0, 6), 0);
        Edge.tells("9: but it is credited", none, k -> k.typist(0, 4), 1);
        Keys.Way late = k -> {
            k.build(2, 4);
            k.setSign(0, 'b');
            k.press(0, 0);
            k.tick(4);
            k.setSign(0, 'c');
            k.release(0, 0);
            k.tick(1);
            k.setSign(0, 'd');
        };
        Edge.tells("9: the sign that the key has as it is typed", late, k -> k.typed(0, 0), 'c');
    }

    /** "if there is no such key any more, it has none": the last key that there is, and the first that is not. */
    private static void keysThatAreGone() {
        for (int i = 3; i <= 4; i++) {
            int key = i;
            Keys.Way way = k -> {
                k.set(0, WIDE);
                k.setSign(key, 'o');
                Edge.strike(k, 1, key, 4);
                k.build(2, 2);
                k.setSign(3, 'n');
            };
            Edge.act("10: settle the key " + key, way, k -> k.settle(0, 1), key);
            Keys.Way settled = Whole.then(way, k -> k.settle(0, 1));
            Edge.tells("10: typed by the key " + key, settled, k -> k.typist(1, 6), key == 3 ? 1 : 0);
            Edge.tells("10: the sign of the key " + key, settled, k -> k.typed(1, 0), key == 3 ? 'n' : Edge.NONE);
            Edge.tells("10: credited", settled, k -> k.typist(1, 4), 1);
            Edge.tells("10: learned", settled, k -> k.typist(1, 7), 0);
            Keys.Way back = Whole.then(way, k -> {
                k.build(4, 6);
                k.settle(0, 1);
            });
            Edge.tells("10: it is there again, without a sign", back, k -> k.typist(1, 6), 0);
            Keys.Way signed = Whole.then(way, k -> {
                k.build(4, 6);
                k.setSign(key, 'p');
                k.settle(0, 1);
            });
            Edge.tells("10: and with one", signed, k -> k.typed(1, 0), 'p');
        }
    }

    /** "A stroke that is credited": a dispute and a ghost give no sign. */
    private static void signsOfCredited() {
        Keys.Way open = k -> {
            disputing(k);
            k.setSign(0, 's');
            Edge.strikeOfTwoRows(k, 0, 0, 2);
        };
        Edge.tells("9: an open dispute", open, k -> k.typist(0, 6) + k.typist(1, 6), 0);
        Edge.tells("10: a ghost by hand", Whole.then(open, k -> k.settle(0, 2)), k -> k.typist(0, 6) + k.typist(1, 6), 0);
        Edge.tells("10: by hand", Whole.then(open, k -> k.settle(0, 1)), k -> k.typed(1, 0), 's');
        Keys.Way shift = Whole.then(open, k -> k.setShift(0, 0));
        Edge.tells("10: a key that is a shift has no sign", Whole.then(shift, k -> k.settle(0, 1)), k -> k.typist(1, 6), 0);
        Edge.tells("10: but 1 learns", Whole.then(shift, k -> k.settle(0, 1)), k -> k.typist(1, 7), 0);
    }

    public static void main(String[] args) {
        distancesInFloats();
        learningInFloats();
        rates();
        leastMean();
        noGapAtFirst();
        lastCredited();
        margins();
        ties();
        trusts();
        marginAtFirst();
        trustAtFirst();
        marginsToTheBit();
        trustsToTheBit();
        shifts();
        shiftAtTheEnd();
        twentyDisputes();
        twentiethByNumber();
        settling();
        settledWhenForgotten();
        settledLater();
        capitals();
        capitalsByHand();
        letters();
        keysThatAreGone();
        signsOfCredited();
        Due.tell();
    }
}
