/** Each sentence of "SENSING" and of the promises 7 to 9 that names a boundary, on both of its sides. */
public final class SensingEdgesTest {
    private static final int MOST = Integer.MAX_VALUE;
    private static final int LEAST = Integer.MIN_VALUE;

    private SensingEdgesTest() {
    }

    private static Keys.Way hold(int typist, int... keys) {
        return k -> {
            for (int key : keys) {
                k.press(typist, key);
            }
        };
    }

    private static Keys.Way built(int rows, int columns, Keys.Way next) {
        return k -> {
            k.build(rows, columns);
            next.on(k);
        };
    }

    /** "A typist holds at most 5 keys": the fifth is the last, for each of both, and beside the other. */
    private static void atMostFive() {
        for (int i = 0; i < 2; i++) {
            int typist = i;
            int other = 1 - i;
            Keys.Way four = hold(typist, 0, 7, 14, 21);
            Keys.Way five = Whole.then(four, hold(typist, 23));
            Edge.act("7: the fifth key", four, k -> k.press(typist, 23), 5);
            Edge.refused("7: FULL if the typist holds 5", five, k -> k.press(typist, 22), Edge.FULL);
            Edge.refused("7: NOT_POSSIBLE before FULL", five, k -> k.press(typist, 7), Edge.NOT_POSSIBLE);
            Edge.refused("7: UNKNOWN before FULL", five, k -> k.press(typist, 24), Edge.UNKNOWN);
            Edge.act("7: the other one has room", five, k -> k.press(other, 22), 1);
            Keys.Way ten = Whole.then(five, hold(other, 1, 2, 3, 4, 5));
            Edge.tells("7: ten keys in all", ten, k -> k.count(3), 10);
            Edge.tells("7: five of the one", ten, k -> k.typist(typist, 0), 5);
            Edge.tells("7: five of the other", ten, k -> k.typist(other, 0), 5);
            Edge.refused("7: FULL, though others are up", ten, k -> k.press(typist, 22), Edge.FULL);
            Edge.refused("7: FULL, the other one too", ten, k -> k.press(other, 22), Edge.FULL);
            Keys.Way again = Whole.then(five, k -> k.release(typist, 0));
            Edge.tells("8: four are left", five, k -> k.release(typist, 0), 4);
            Edge.act("7: room again for the same key", again, k -> k.press(typist, 0), 5);
            Edge.act("7: room again for another", again, k -> k.press(typist, 22), 5);
            Edge.refused("7: FULL again", Whole.then(again, k -> k.press(typist, 22)), k -> k.press(typist, 0), Edge.FULL);
        }
    }

    private static void pressed() {
        Keys.Way way = k -> {
            k.press(0, 0);
            k.press(1, 23);
            k.keep();
            k.tick(4);
        };
        Edge.refused("7: NOT_POSSIBLE if it is down, by itself", way, k -> k.press(0, 0), Edge.NOT_POSSIBLE);
        Edge.refused("7: NOT_POSSIBLE if it is down, by the other", way, k -> k.press(0, 23), Edge.NOT_POSSIBLE);
        Edge.refused("7: NOT_POSSIBLE for 1 too", way, k -> k.press(1, 0), Edge.NOT_POSSIBLE);
        Edge.act("7: up", way, k -> k.press(0, 1), 2);
        Edge.act("7: up, by 1", way, k -> k.press(1, 1), 2);
        Keys.Way up = Whole.then(way, k -> k.release(0, 0));
        Edge.act("7: up again, though it is seen still", up, k -> k.press(1, 0), 2);
        Edge.refused("8: NOT_POSSIBLE if it is up", way, k -> k.release(0, 1), Edge.NOT_POSSIBLE);
        Edge.refused("8: NOT_POSSIBLE if it is up, though seen", up, k -> k.release(0, 0), Edge.NOT_POSSIBLE);
        Edge.refused("8: NOT_POSSIBLE if the other one holds it", way, k -> k.release(1, 0), Edge.NOT_POSSIBLE);
        Edge.refused("8: NOT_POSSIBLE, the other way round", way, k -> k.release(0, 23), Edge.NOT_POSSIBLE);
        Edge.act("8: the last of 0", way, k -> k.release(0, 0), 0);
        Edge.act("8: the last of 1", way, k -> k.release(1, 23), 0);
    }

    /** The first and the last key and the two typists, and those before and behind them. */
    private static void unknown() {
        int[][] sizes = {{4, 6}, {2, 2}, {6, 8}};
        for (int[] size : sizes) {
            int last = size[0] * size[1] - 1;
            Keys.Way way = built(size[0], size[1], hold(0, 0, last));
            int[] none = {-1, last + 1, LEAST, MOST, -last};
            for (int key : none) {
                Edge.refused("7: UNKNOWN of key " + key, way, k -> k.press(0, key), Edge.UNKNOWN);
                Edge.refused("8: UNKNOWN of key " + key, way, k -> k.release(0, key), Edge.UNKNOWN);
            }
            int[] noTypists = {-1, 2, LEAST, MOST, 256};
            for (int typist : noTypists) {
                Edge.refused("7: UNKNOWN of typist " + typist, way, k -> k.press(typist, 1), Edge.UNKNOWN);
                Edge.refused("7: UNKNOWN before NOT_POSSIBLE", way, k -> k.press(typist, 0), Edge.UNKNOWN);
                Edge.refused("8: UNKNOWN of typist " + typist, way, k -> k.release(typist, 0), Edge.UNKNOWN);
                Edge.refused("8: UNKNOWN before NOT_POSSIBLE", way, k -> k.release(typist, 1), Edge.UNKNOWN);
            }
            Keys.Way empty = k -> k.build(size[0], size[1]);
            Edge.act("7: the first key", empty, k -> k.press(0, 0), 1);
            Edge.act("7: the last key", empty, k -> k.press(1, last), 1);
            Edge.act("8: the first key", way, k -> k.release(0, 0), 1);
            Edge.act("8: the last key", way, k -> k.release(0, last), 1);
        }
    }

    /** "ticks: 1 to 99." */
    private static void ticks() {
        Keys.Way way = k -> {
            k.press(0, 5);
            k.tick(4);
            k.release(0, 5);
        };
        int[] wrong = {0, -1, 100, 101, LEAST, MOST, 257, 65537, -99};
        for (int ticks : wrong) {
            Edge.refused("9: BAD_VALUE of " + ticks, way, k -> k.tick(ticks), Edge.BAD_VALUE);
        }
        Edge.act("9: 1 tick, and a stroke ends", way, k -> k.tick(1), 1);
        Edge.act("9: 99 ticks, and a stroke ends", way, k -> k.tick(99), 1);
        Edge.act("9: 1 tick, and none ends", Edge.NEW, k -> k.tick(1), 0);
        Edge.act("9: 99 ticks, and none ends", Edge.NEW, k -> k.tick(99), 0);
        Edge.tells("9: the number after 1", Whole.then(way, k -> k.tick(1)), k -> k.count(0), 5);
        Edge.tells("9: the number after 99", Whole.then(way, k -> k.tick(99)), k -> k.count(0), 103);
    }

    /** "in the tick t the row t % rows": from the last row on to the first one, for each number of rows. */
    private static void rowsWrapAround() {
        for (int rows = 2; rows <= 6; rows++) {
            Keys k = new RealKeys();
            k.build(rows, 2);
            for (int row = 0; row < rows; row++) {
                k.press(row / 5, 2 * row);
            }
            for (int tick = 0; tick < 3 * rows + 1; tick++) {
                String at = "9: " + rows + " rows, tick " + tick;
                Due.is(at + ", the row that is driven", k.count(13), tick % rows);
                Due.is(at + ", keys that are seen", k.count(4), Math.min(tick, rows));
                k.tick(1);
                Due.is(at + ", its key is seen", k.key(tick % rows * 2, 1), 1);
                Due.is(at + ", since the first time", k.key(tick % rows * 2, 2), tick % rows);
            }
            Keys far = new RealKeys();
            far.build(rows, 2);
            for (int i = 1; i <= 100; i++) {
                far.tick(99);
                Due.is("27: far, number of the tick", far.count(0), 99 * i);
                Due.is("27: far, the row driven next", far.count(13), 99 * i % rows);
            }
        }
    }

    /** A key that is pressed just before its row is driven is seen in that tick; just after it, a whole round later. */
    private static void justInTime() {
        for (int rows = 2; rows <= 6; rows++) {
            int last = rows * 2 - 1;
            int size = rows;
            Keys.Way before = k -> {
                k.build(size, 2);
                k.tick(size - 1);
                k.press(0, last);
                k.tick(1);
            };
            Edge.tells("9: pressed just before", before, k -> k.key(last, 2), rows - 1);
            Keys.Way after = k -> {
                k.build(size, 2);
                k.tick(size);
                k.press(0, last);
                k.tick(size - 1);
            };
            Edge.tells("9: pressed just after, not seen yet", after, k -> k.key(last, 2), Edge.NONE);
            Edge.tells("9: a round later", Whole.then(after, k -> k.tick(1)), k -> k.key(last, 2), 2 * rows - 1);
            Edge.tells("9: released just before it would end", Whole.then(before, k -> k.tick(size - 1)), k -> {
                k.release(0, last);
                return k.tick(1);
            }, 1);
            Edge.tells("9: released just after", Whole.then(before, k -> k.tick(size)), k -> {
                k.release(0, last);
                return k.tick(size - 1);
            }, 0);
        }
    }

    /** "A column is sensed then if there is a way": the longest one, through the rows in each order, and with each key missing. */
    private static void longestWay() {
        int[] rows = {0, 1, 2, 3, 4, 5};
        int orders = 0;
        for (int code = 0; code < 120; code++) {
            int[] order = rows.clone();
            int rest = code;
            for (int i = 1; i < 5; i++) {
                int other = i + rest % (6 - i);
                rest /= 6 - i;
                int row = order[i];
                order[i] = order[other];
                order[other] = row;
            }
            longestWayThrough(order);
            orders++;
        }
        Due.is("9: ways", orders, 120);
    }

    /** From the first row over a column to the next one, and so on; ten keys for eleven rows and columns. */
    private static void longestWayThrough(int[] rows) {
        int[] columns = {4, 7, 0, 5, 2};
        int[] way = new int[10];
        for (int i = 0; i < 10; i++) {
            way[i] = rows[(i + 1) / 2] * 8 + columns[i / 2];
        }
        Keys k = new RealKeys();
        k.build(6, 8);
        for (int i = 0; i < way.length; i++) {
            k.press(i / 5, way[i]);
        }
        int farColumn = rows[0] * 8 + columns[4];
        int backColumn = rows[5] * 8 + columns[0];
        Due.is("9: over nine keys", k.key(farColumn, 6), 1);
        Due.is("9: back from the other end", k.key(backColumn, 6), 1);
        int[] apart = {1, 3, 6};
        for (int column : apart) {
            Due.is("9: a column without keys", k.key(rows[0] * 8 + column, 6), 0);
        }
        for (int i = 0; i < way.length; i++) {
            k.release(i / 5, way[i]);
            Due.is("9: the way without its key " + i, k.key(farColumn, 6), i < 9 ? 0 : 1);
            Due.is("9: the way back without its key " + i, k.key(backColumn, 6), i < 1 ? 1 : 0);
            k.press(i / 5, way[i]);
        }
        Due.is("9: the way again", k.key(farColumn, 6), 1);
        k.tick(6);
        Due.is("9: five keys of each row are seen", k.count(4), 30);
    }

    /** "at first not": before its first tick no key is seen, however many are down. */
    private static void seenAtFirst() {
        Keys.Way way = built(2, 2, hold(0, 0, 1, 2, 3));
        for (int i = 0; i < 4; i++) {
            int key = i;
            Edge.tells("17: not seen at first", way, k -> k.key(key, 1), 0);
            Edge.tells("17: but sensed", way, k -> k.key(key, 6), 1);
            Edge.tells("17: since none", way, k -> k.key(key, 2), Edge.NONE);
            Edge.tells("17: not doubtful", way, k -> k.key(key, 3), 0);
        }
        Keys.Way one = Whole.then(way, k -> k.tick(1));
        Edge.tells("17: since the tick 0", one, k -> k.key(0, 2), 0);
        Edge.tells("17: the other row not", one, k -> k.key(2, 2), Edge.NONE);
    }

    /** Step 1: a stroke ends when its column is not sensed, which is not yet so if there is another way to it. */
    private static void endsWithoutWay() {
        Keys.Way way = built(2, 2, k -> {
            hold(0, 0, 1, 2, 3).on(k);
            k.tick(2);
            k.release(0, 3);
        });
        Edge.tells("9: up, but sensed over the other three", way, k -> k.tick(2), 0);
        Edge.tells("9: still seen", Whole.then(way, k -> k.tick(2)), k -> k.key(3, 1), 1);
        Keys.Way cut = Whole.then(way, k -> k.release(0, 1));
        Edge.tells("9: both end when the way is cut", cut, k -> k.tick(2), 2);
        Keys ended = Edge.after(Whole.then(cut, k -> k.tick(2)));
        Due.is("9: the row 0 first", ended.stroke(1, 0), 1);
        Due.is("9: then the row 1", ended.stroke(0, 0), 3);
        Due.is("9: dwell of 3", ended.stroke(0, 2), 2);
    }

    /** Step 1, "by number": of two that end in one tick, the lower one is the earlier stroke and dispute. */
    private static void endsByNumber() {
        Keys.Way way = k -> {
            k.build(2, 8);
            k.set(0, Edge.bits(2.0f));
            k.press(0, 7);
            k.press(1, 5);
            k.press(0, 0);
            k.tick(2);
            k.release(0, 0);
            k.release(0, 7);
            k.release(1, 5);
        };
        Edge.tells("9: three end", way, k -> k.tick(1), 3);
        Keys k = Edge.after(Whole.then(way, x -> x.tick(1)));
        int[] keys = {0, 5, 7};
        for (int i = 0; i < 3; i++) {
            Due.is("9: stroke by number", k.stroke(2 - i, 0), keys[i]);
            Due.is("9: dispute by number", k.dispute(i, 0), keys[i]);
        }
    }

    /** Step 1: a key that ends in a tick is no corner for one that becomes seen in it. */
    private static void endsBeforeDoubts() {
        Keys.Way way = built(2, 2, k -> {
            hold(0, 2, 3).on(k);
            k.tick(2);
            k.release(0, 3);
            k.press(0, 0);
            k.tick(1);
            k.press(0, 3);
            k.release(0, 0);
            k.tick(1);
            k.release(0, 3);
            k.press(1, 1);
        });
        Edge.tells("9: 0, 2 and 3 are seen", way, k -> k.count(4) * 10 + k.key(1, 1), 30);
        Edge.tells("9: 0 ends", way, k -> k.tick(1), 1);
        Edge.tells("9: 1 is seen", Whole.then(way, k -> k.tick(1)), k -> k.key(1, 1), 1);
        Edge.tells("9: without a doubt", Whole.then(way, k -> k.tick(1)), k -> k.count(5), 0);
        Keys.Way held = Whole.then(way, k -> {
            k.press(0, 0);
            k.tick(1);
        });
        Edge.tells("9: if 0 does not end, with one", held, k -> k.key(1, 3), 1);
    }

    /** Step 1: a shift that ends in a tick is not on for a key that becomes seen in it. */
    private static void endsBeforeNotes() {
        Keys.Way way = built(2, 3, k -> {
            k.setShift(0, 0);
            hold(1, 0, 2).on(k);
            k.tick(2);
            k.release(1, 0);
            k.press(0, 1);
            k.tick(1);
            k.tick(1);
            k.release(0, 1);
            k.tick(2);
        });
        Edge.tells("9: the key of that tick", way, k -> k.stroke(0, 0), 1);
        Edge.tells("9: notes no shift that ended in it", way, k -> k.stroke(0, 5), 0);
        Keys.Way held = built(2, 3, k -> {
            k.setShift(0, 0);
            hold(1, 0, 2).on(k);
            k.tick(2);
            k.press(0, 1);
            k.tick(2);
            k.release(0, 1);
            k.tick(2);
        });
        Edge.tells("9: it notes one that did not", held, k -> k.stroke(0, 5), 1);
    }

    /** Step 1: the end of a stroke in a tick does not keep its key from being seen anew in a later one. */
    private static void seenAnew() {
        Keys.Way way = built(2, 2, k -> {
            k.press(0, 0);
            k.tick(2);
            k.release(0, 0);
            k.tick(1);
            k.press(1, 0);
            k.tick(1);
        });
        Edge.tells("9: ended", way, k -> k.key(0, 1), 0);
        Edge.tells("9: not seen in the tick of another row", way, k -> k.count(4), 0);
        Edge.tells("9: seen in its row's next", Whole.then(way, k -> k.tick(1)), k -> k.key(0, 2), 4);
        Keys.Way released = built(2, 2, k -> {
            k.press(0, 0);
            k.tick(2);
            k.release(0, 0);
            k.press(1, 0);
        });
        Edge.tells("9: released and pressed between is one stroke", released, k -> k.tick(99), 0);
        Edge.tells("9: since the first", Whole.then(released, k -> k.tick(99)), k -> k.key(0, 2), 0);
    }

    /** Step 3: "three other keys that are seen now": not two, and not one that is down but not seen yet. */
    private static void threeOthers() {
        Keys.Way two = built(2, 2, k -> {
            hold(0, 0, 1).on(k);
            k.tick(1);
            k.release(0, 1);
            hold(0, 2).on(k);
            k.tick(1);
        });
        Edge.tells("9: three keys are seen", two, k -> k.count(4), 3);
        Edge.tells("9: two others are no doubt", two, k -> k.count(5), 0);
        Keys.Way down = built(2, 2, k -> {
            hold(0, 0, 1, 2, 3).on(k);
            k.tick(1);
        });
        Edge.tells("9: four are down, two seen", down, k -> k.count(4), 2);
        Edge.tells("9: those that are not seen are no corners", down, k -> k.count(5), 0);
        Keys.Way three = Whole.then(down, k -> k.tick(1));
        Edge.tells("9: three others are a doubt, of 2", three, k -> k.key(2, 3), 1);
        Edge.tells("9: and of 3", three, k -> k.key(3, 3), 1);
        Edge.tells("9: not of 0, that was seen before", three, k -> k.key(0, 3), 0);
        Edge.tells("9: not of 1", three, k -> k.key(1, 3), 0);
        Edge.tells("9: two doubtful", three, k -> k.count(5), 2);
        Edge.tells("9: later neither", Whole.then(three, k -> k.tick(99)), k -> k.count(5), 2);
    }

    /** Step 3: a corner can be a key that is seen still, though it is up. */
    private static void cornersThatAreUp() {
        Keys.Way way = built(2, 2, k -> {
            hold(0, 0, 1).on(k);
            k.tick(1);
            k.release(0, 1);
            hold(1, 2, 3).on(k);
            k.release(0, 0);
            k.tick(1);
        });
        Edge.tells("9: two are up, but seen", way, k -> k.count(4), 4);
        Edge.tells("9: so both others are doubtful", way, k -> k.count(5), 2);
        Keys.Way later = Whole.then(way, k -> k.tick(1));
        Edge.tells("9: the corners are gone", later, k -> k.count(4), 2);
        Edge.tells("9: the doubt stays", later, k -> k.count(5), 2);
        Keys.Way ended = Whole.then(later, k -> {
            k.release(1, 2);
            k.tick(1);
        });
        Edge.tells("9: until its stroke ends", ended, k -> k.count(5), 1);
        Edge.tells("9: that of the other stays", ended, k -> k.key(3, 3), 1);
        Keys.Way again = Whole.then(ended, k -> {
            k.press(0, 2);
            k.tick(2);
        });
        Edge.tells("9: seen anew", again, k -> k.key(2, 1), 1);
        Edge.tells("9: without the old doubt", again, k -> k.key(2, 3), 0);
    }

    /** Step 3: "in two rows and two columns": at the corners of the keyboard, and not in three rows or columns. */
    private static void twoRowsAndColumns() {
        Keys.Way corners = built(6, 8, k -> {
            hold(0, 0, 7, 40).on(k);
            k.tick(6);
        });
        Edge.tells("9: the ghost in the far corner", corners, k -> k.key(47, 3), 1);
        Edge.tells("9: the true key in its row", corners, k -> k.key(40, 3), 1);
        Edge.tells("9: no more", corners, k -> k.count(5), 2);
        Keys.Way row = built(2, 4, k -> {
            hold(0, 0, 1, 2, 3).on(k);
            k.tick(2);
        });
        Edge.tells("9: four in one row", row, k -> k.count(4), 4);
        Edge.tells("9: are no doubt", row, k -> k.count(5), 0);
        Keys.Way column = built(4, 2, k -> {
            hold(0, 0, 2, 4, 6).on(k);
            k.tick(4);
        });
        Edge.tells("9: four in one column", column, k -> k.count(4), 4);
        Edge.tells("9: are no doubt", column, k -> k.count(5), 0);
        Keys.Way diagonal = built(4, 4, k -> {
            hold(0, 0, 5, 10, 15).on(k);
            k.tick(4);
        });
        Edge.tells("9: four in four rows and columns", diagonal, k -> k.count(4), 4);
        Edge.tells("9: are no doubt", diagonal, k -> k.count(5), 0);
        // the keys 0, 1 and 5 are seen; then 6: with 1 and 5 it lies in two rows, but 0 is not below 2
        Keys.Way stairs = built(3, 4, k -> {
            hold(0, 0, 1).on(k);
            k.tick(1);
            k.release(0, 1);
            hold(0, 5, 6).on(k);
            k.tick(1);
        });
        Edge.tells("9: four in two rows, but three columns", stairs, k -> k.count(4), 4);
        Edge.tells("9: are no doubt", stairs, k -> k.count(5), 0);
    }

    /** Step 3, "became seen in this tick": the fourth corner is doubtful in whatever tick it comes. */
    private static void fourthCornerLate() {
        Keys.Way way = built(2, 2, k -> {
            hold(0, 0, 1).on(k);
            k.tick(1);
            k.release(0, 1);
            hold(0, 2).on(k);
            k.tick(1);
        });
        // 0 and 2 are down, 1 is seen still; in the tick 2 it ends
        Edge.tells("9: no doubt yet", way, k -> k.count(5), 0);
        Keys.Way late = Whole.then(way, k -> {
            k.press(1, 1);
            k.tick(1);
        });
        Edge.tells("9: 1 is seen all along", late, k -> k.key(1, 2), 0);
        Keys.Way closed = Whole.then(late, k -> k.tick(1));
        Edge.tells("9: the ghost 3 comes", closed, k -> k.key(3, 2), 3);
        Edge.tells("9: it alone is doubtful", closed, k -> k.count(5) * 10 + k.key(3, 3), 11);
    }

    /** Step 4: the shifts that are on now: of this tick too, but not of a later one, nor a doubtful one. */
    private static void shiftsThatAreOn() {
        for (int i = 0; i < 9; i++) {
            int letter = i / 3 * 4;
            int shift = i % 3 * 4 + 2;
            Keys.Way way = built(3, 4, k -> {
                k.setShift(1, shift);
                k.press(0, letter);
                k.press(1, shift);
                k.tick(3);
                k.release(0, letter);
                k.tick(3);
            });
            int noted = shift < letter + 4 ? 2 : 0;
            Edge.tells("9: the shift " + shift + " for the key " + letter, way, k -> k.stroke(0, 5), noted);
        }
        Keys.Way same = built(3, 4, k -> {
            k.setShift(0, 3);
            k.setShift(1, 0);
            hold(0, 0, 1, 3).on(k);
            k.tick(3);
            k.release(0, 1);
            k.tick(3);
        });
        Edge.tells("9: both shifts of the same tick, before and behind it", same, k -> k.stroke(0, 5), 3);
    }

    /** Step 3 before step 4: a shift that becomes doubtful in a tick is not on for those that become seen in it. */
    private static void doubtsBeforeNotes() {
        Keys.Way way = built(2, 4, k -> {
            k.setShift(0, 4);
            hold(0, 0, 1).on(k);
            k.tick(1);
            hold(1, 4, 6).on(k);
            k.tick(1);
        });
        Edge.tells("9: the shift is doubtful", way, k -> k.key(4, 3), 1);
        Edge.tells("9: the letter is not", way, k -> k.key(6, 1) * 10 + k.key(6, 3), 10);
        Keys.Way ended = Whole.then(way, k -> {
            k.release(1, 6);
            k.tick(2);
        });
        Edge.tells("9: so the letter notes none", ended, k -> k.stroke(0, 0) * 10 + k.stroke(0, 5), 60);
        Keys.Way shift = Whole.then(way, k -> {
            k.release(1, 4);
            k.tick(2);
        });
        Edge.tells("9: nor does the shift itself", shift, k -> k.stroke(1, 0) * 10 + k.stroke(1, 5), 40);
    }

    /** Step 4, "For each key that became seen in this tick": what was noted before of others in its row stays. */
    private static void notedOnce() {
        Keys.Way way = built(2, 4, k -> {
            k.setShift(1, 3);
            k.press(0, 0);
            k.tick(2);
            k.press(1, 3);
            k.release(0, 0);
            k.press(1, 0);
            k.press(0, 1);
            k.tick(2);
            k.release(1, 0);
            k.release(0, 1);
            k.tick(2);
        });
        Edge.tells("9: the later key", way, k -> k.stroke(0, 0) * 10 + k.stroke(0, 5), 12);
        Edge.tells("9: the earlier key notes no shift", way, k -> k.stroke(1, 0) * 10 + k.stroke(1, 5), 0);
        Edge.tells("9: and has the first holder", way, k -> k.stroke(1, 4), 0);
    }

    /** "The shift of a typist is on if its key is seen and not doubtful." */
    private static void doubtfulShift() {
        Keys.Way way = built(2, 3, k -> {
            k.setShift(0, 3);
            hold(0, 0, 1, 3).on(k);
            k.tick(2);
        });
        Edge.tells("18: its key is seen", way, k -> k.key(3, 1), 1);
        Edge.tells("18: and doubtful", way, k -> k.key(3, 3), 1);
        Edge.tells("18: so it is not on", way, k -> k.typist(0, 2), 0);
        Keys.Way noted = Whole.then(way, k -> {
            k.press(1, 2);
            k.tick(1);
            k.release(1, 2);
            k.tick(2);
        });
        Edge.tells("9: nor noted", noted, k -> k.stroke(0, 0) * 10 + k.stroke(0, 5), 20);
        Keys.Way sure = built(2, 3, k -> {
            k.setShift(0, 3);
            hold(0, 3).on(k);
            k.tick(2);
        });
        Edge.tells("18: seen without a doubt it is on", sure, k -> k.typist(0, 2), 1);
        Edge.tells("18: not before it is seen", built(2, 3, k -> {
            k.setShift(0, 3);
            hold(0, 3).on(k);
            k.tick(1);
        }), k -> k.typist(0, 2), 0);
        Edge.tells("18: still on when it is up, but seen", Whole.then(sure, k -> {
            k.release(0, 3);
            k.tick(1);
        }), k -> k.typist(0, 2), 1);
        Edge.tells("18: off when it is not seen any more", Whole.then(sure, k -> {
            k.release(0, 3);
            k.tick(2);
        }), k -> k.typist(0, 2), 0);
    }

    /** "The true holder of a stroke is the typist who held its key as it became seen, or none." */
    private static void trueHolder() {
        for (int i = 0; i < 2; i++) {
            int typist = i;
            Keys.Way way = built(2, 2, k -> {
                k.press(typist, 0);
                k.tick(1);
                k.release(typist, 0);
                k.press(1 - typist, 0);
                k.tick(3);
                k.release(1 - typist, 0);
                k.tick(2);
            });
            Edge.tells("9: true holder " + typist, way, k -> k.stroke(0, 4), typist);
        }
        Keys.Way before = built(2, 2, k -> {
            k.press(0, 0);
            k.release(0, 0);
            k.press(1, 0);
            k.tick(2);
            k.release(1, 0);
            k.tick(2);
        });
        Edge.tells("9: not who held it before it was seen", before, k -> k.stroke(0, 4), 1);
        Keys.Way ghost = built(2, 2, k -> {
            hold(0, 0, 1, 2).on(k);
            k.tick(2);
            k.press(1, 3);
            k.tick(2);
            k.release(1, 3);
            k.release(0, 2);
            k.tick(2);
        });
        Edge.tells("9: none, though it was down later", ghost, k -> k.stroke(0, 0) * 10 + k.stroke(0, 4), 25);
    }

    /** "Returns how many strokes end in them": in one tick and in several, none to as many as there are. */
    private static void howManyEnd() {
        Keys.Way ten = k -> {
            k.build(2, 5);
            hold(0, 0, 1, 2, 3, 4).on(k);
            hold(1, 5, 6, 7, 8, 9).on(k);
            k.tick(2);
            for (int key = 0; key < 5; key++) {
                k.release(0, key);
                k.release(1, key + 5);
            }
        };
        Edge.act("9: five of the one row", ten, k -> k.tick(1), 5);
        Edge.act("9: ten of both", ten, k -> k.tick(2), 10);
        Edge.act("9: ten of both, and no more", ten, k -> k.tick(99), 10);
        Edge.tells("9: all have ended", Whole.then(ten, k -> k.tick(2)), k -> k.count(6), 10);
        // the row 0 joins all columns, and the column 0 all rows to it
        Keys.Way all = k -> {
            k.build(6, 5);
            hold(0, 0, 1, 2, 3, 4).on(k);
            hold(1, 5, 10, 15, 20, 25).on(k);
            k.tick(6);
        };
        Edge.tells("9: all are seen", all, k -> k.count(4), 30);
        Edge.tells("9: those of the first row without a doubt", all, k -> k.count(5), 25);
        Edge.act("9: all end", Whole.then(all, k -> {
            for (int key = 0; key < 5; key++) {
                k.release(0, key);
                k.release(1, (key + 1) * 5);
            }
        }), k -> k.tick(6), 30);
    }

    public static void main(String[] args) {
        atMostFive();
        pressed();
        unknown();
        ticks();
        rowsWrapAround();
        justInTime();
        longestWay();
        seenAtFirst();
        endsWithoutWay();
        endsByNumber();
        endsBeforeDoubts();
        endsBeforeNotes();
        seenAnew();
        threeOthers();
        cornersThatAreUp();
        twoRowsAndColumns();
        fourthCornerLate();
        shiftsThatAreOn();
        doubtsBeforeNotes();
        notedOnce();
        doubtfulShift();
        trueHolder();
        howManyEnd();
        Due.tell();
    }
}
