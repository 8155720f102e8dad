/** Each sentence of "TEXTS" and of the promises 11 to 13 that names a boundary, on both of its sides. */
public final class TextEdgesTest {
    private static final int FAULTS = -100;

    private TextEdgesTest() {
    }

    private static Keys.Way text(String text) {
        return k -> Edge.write(k, text);
    }

    private static String repeated(String part, int times) {
        StringBuilder all = new StringBuilder();
        for (int i = 0; i < times; i++) {
            all.append(part);
        }
        return all.toString();
    }

    /** A state with a past, a snapshot and a future, to see that texts leave them. */
    private static void used(Keys k) {
        k.setSign(0, 'a');
        k.press(0, 0);
        k.tick(4);
        k.keep();
        k.release(0, 0);
        k.press(1, 7);
        k.tick(2);
    }

    /** "There is a text of at most 60 characters, empty at first." */
    private static void sixtyCharacters() {
        Edge.tells("27: empty at first", Edge.NEW, k -> k.count(15), 0);
        Edge.tells("12: nothing to empty at first", Edge.NEW, k -> k.clearText(), 0);
        Keys.Way used = TextEdgesTest::used;
        Keys.Way fiftyNine = Whole.then(used, text(repeated("x", 59)));
        Keys.Way sixty = Whole.then(used, text(repeated("x", 60)));
        Edge.noAct("11: the first character", used, k -> k.type('x'), 1);
        Edge.noAct("11: the 60th character", fiftyNine, k -> k.type('x'), 60);
        Edge.refused("11: FULL if it has 60 characters", sixty, k -> k.type('x'), Edge.FULL);
        Edge.refused("11: FULL of any character", sixty, k -> k.type((char) 0), Edge.FULL);
        Edge.tells("27: 59 characters", fiftyNine, k -> k.count(15), 59);
        Edge.tells("27: 60 characters", sixty, k -> k.count(15), 60);
        Edge.noAct("12: 59 characters", fiftyNine, Keys::clearText, 59);
        Edge.noAct("12: 60 characters", sixty, Keys::clearText, 60);
        Edge.noAct("12: none", used, Keys::clearText, 0);
        Keys.Way emptied = Whole.then(sixty, Keys::clearText);
        Edge.tells("27: empty then", emptied, k -> k.count(15), 0);
        Edge.tells("13: the empty text", emptied, Keys::perform, FAULTS);
        Edge.tells("12: empty already", emptied, Keys::clearText, 0);
        Edge.noAct("11: room again", emptied, k -> k.type('t'), 1);
        Edge.tells("11: nothing of the old text is left", Whole.then(emptied, text("t7")), Keys::perform, 0);
        Edge.tells("11: 60 again", Whole.then(emptied, text(repeated("y", 60))), k -> k.type('y'), Edge.FULL);
    }

    /** "character: any character." */
    private static void anyCharacter() {
        for (int c = 0; c <= 0xFFFF; c++) {
            char any = (char) c;
            Keys k = new RealKeys();
            Due.is("", "11: character " + c, k.type(any), 1);
            boolean isBegin = any == '0' || any == '1' || any == 't';
            Due.is("", "13: fault behind character " + c, k.perform(), isBegin ? FAULTS - 1 : FAULTS);
        }
    }

    /** What is allowed at each place of a script, and nothing else: the fault is there, or behind it. */
    private static void places() {
        String digits = "0123456789";
        String[][] places = {{"", "01t"}, {"0", "du"}, {"1", "du"}, {"0d", digits}, {"0u", digits}, {"1d", digits}, {"1u", digits},
            {"0d0", ";"}, {"1u0", ";"}, {"0d1", ";" + digits}, {"1u9", ";" + digits}, {"0d10", ";"}, {"0u23", ";"}, {"1d99", ";"},
            {"t", "123456789"}, {"t1", ";" + digits}, {"t9", ";" + digits}, {"t10", ";"}, {"t99", ";"}, {"t1;", "01t"},
            {"0d1;", "01t"}, {"0d0;0u", digits}, {"t9;t", "123456789"}, {"t9;1", "du"}, {"0d0;0u0", ";"}, {"t1;t1", ";" + digits}};
        for (String[] place : places) {
            for (int c = 0; c < 384; c++) {
                placeAndCharacter(place[0], (char) c, place[1].indexOf(c) >= 0);
            }
            int[] far = {0x0130, 0x0131, 0x0174, 0x0660, 0x0661, 0xFF10, 0xFF1B, 0x3130, 0xFFFF};
            for (int c : far) {
                placeAndCharacter(place[0], (char) c, false);
            }
        }
    }

    private static void placeAndCharacter(String before, char character, boolean isAllowed) {
        String call = "13: \"" + before + "\" and " + (int) character;
        Keys k = Edge.after(text(before + character));
        int answer = k.perform();
        if (!isAllowed) {
            Due.is("", call, answer, FAULTS - before.length());
            Due.is("", call + ", no tick", k.count(0), 0);
            return;
        }
        boolean isWhole = "0123456789".indexOf(character) >= 0 && !(before + character).matches("(.*;)?[01]");
        boolean isFault = answer <= FAULTS;
        Due.is("", call + ", too early or not", isFault ? 1 : 0, isWhole ? 0 : 1);
        if (isFault) {
            Due.is("", call, answer, FAULTS - before.length() - 1);
        }
    }

    /** "or the length of the text if it ends too early (the empty text does)", and of two faults the first. */
    private static void faults() {
        Object[][] faults = {{"", 0}, {"t", 1}, {"1", 1}, {"1d", 2}, {"0u", 2}, {"t1;", 3}, {"t1;0", 4}, {"t1;0d", 5}, {";", 0},
            {"t1;;", 3}, {"xx", 0}, {"tx0", 1}, {"t1x;", 2}, {"0dx;t", 2}, {"t1;x;t0", 3}, {"0d00;0d00", 3}, {"t0;t0", 1},
            {"0d99;1", 6}, {"t1 ", 2}, {" t1", 0}, {"t1; t1", 3}, {"0d1u", 3}, {"01d1", 1}, {"0t1", 1}, {"t1t1", 2}, {"0d010", 3}};
        for (Object[] fault : faults) {
            Keys.Way way = Whole.then(TextEdgesTest::used, text((String) fault[0]));
            Edge.refused("13: fault of \"" + fault[0] + "\"", way, Keys::perform, FAULTS - (Integer) fault[1]);
        }
        String full = repeated("t1;", 20);
        Edge.refused("13: 60 characters end too early", text(full), Keys::perform, FAULTS - 60);
        Edge.refused("13: the fault is the 60th", text(full.substring(0, 59) + "x"), Keys::perform, FAULTS - 59);
        Edge.refused("13: of 59 the last", text(full.substring(0, 58) + "x"), Keys::perform, FAULTS - 58);
        Edge.act("13: 59 characters are whole", text(full.substring(0, 59)), Keys::perform, 0);
        Edge.tells("13: twenty moves", Whole.then(text(full.substring(0, 59)), Keys::perform), k -> k.count(0), 20);
        Edge.refused("13: not whole without the last", text(full.substring(0, 58)), Keys::perform, FAULTS - 58);
    }

    /** A script that is as long as the text can be, and whose last character counts. */
    private static void longestScript() {
        String most = repeated("t99;", 13) + "0d1;0d17";
        Edge.act("13: 60 characters are whole", text(most), Keys::perform, 0);
        Keys k = Edge.after(Whole.then(text(most), Keys::perform));
        Due.is("13: 60 characters", k.count(15), 60);
        Due.is("13: ticks of thirteen moves", k.count(0), 13 * 99);
        Due.is("13: the last move, both digits", k.key(17, 0), 0);
        Due.is("13: the one before", k.key(1, 0), 0);
        Due.is("13: no other", k.count(3), 2);
        Edge.refused("13: once more, it is down", Whole.then(text(most), Keys::perform), Keys::perform, Edge.NOT_POSSIBLE);
        String ticks = repeated("t99;", 14) + "t99";
        Edge.tells("13: most ticks", Whole.then(text(ticks), Keys::perform), x -> x.count(0), 15 * 99);
    }

    /** "a key can be the single digit 0, a number of ticks cannot": keys and ticks of one digit and of two. */
    private static void numbers() {
        int[] keys = {0, 1, 9, 10, 11, 19, 20, 47};
        for (int key : keys) {
            for (int i = 0; i < 2; i++) {
                int typist = i;
                Keys.Way way = k -> {
                    k.build(6, 8);
                    Edge.write(k, typist + "d" + key);
                };
                Edge.act("13: down " + key, way, Keys::perform, 0);
                Edge.tells("13: who holds " + key, Whole.then(way, Keys::perform), k -> k.key(key, 0), typist);
                Keys.Way up = Whole.then(Whole.then(way, Keys::perform), k -> {
                    k.clearText();
                    Edge.write(k, typist + "u" + key);
                });
                Edge.act("13: up " + key, up, Keys::perform, 0);
                Edge.tells("13: up then " + key, Whole.then(up, Keys::perform), k -> k.key(key, 0), Edge.NONE);
            }
        }
        for (int i = 1; i <= 99; i++) {
            int ticks = i;
            Edge.tells("13: t" + ticks, Whole.then(text("t" + ticks), Keys::perform), k -> k.count(0), ticks);
        }
        Edge.act("13: the least ticks", text("t1"), Keys::perform, 0);
        Edge.act("13: the most ticks", text("t99"), Keys::perform, 0);
        Edge.refused("13: no ticks", text("t0"), Keys::perform, FAULTS - 1);
        Edge.refused("13: too many ticks", text("t100"), Keys::perform, FAULTS - 3);
    }

    /** The errors of press() and release(), of the first move for which it is so when its turn comes. */
    private static void errors() {
        Keys.Way used = TextEdgesTest::used;
        Edge.refused("13: UNKNOWN of the key behind the last, down", Whole.then(used, text("t9;0d24")), Keys::perform, Edge.UNKNOWN);
        Edge.refused("13: UNKNOWN of the key behind the last, up", Whole.then(used, text("t9;0u24")), Keys::perform, Edge.UNKNOWN);
        Edge.refused("13: UNKNOWN of the greatest key", Whole.then(used, text("1d99")), Keys::perform, Edge.UNKNOWN);
        Edge.act("13: the last key", Whole.then(used, text("t9;0d23")), Keys::perform, 0);
        Edge.refused("13: NOT_POSSIBLE, down", Whole.then(used, text("t9;0d7")), Keys::perform, Edge.NOT_POSSIBLE);
        Edge.refused("13: NOT_POSSIBLE, of the other", Whole.then(used, text("t9;0u7")), Keys::perform, Edge.NOT_POSSIBLE);
        Edge.refused("13: NOT_POSSIBLE, up", Whole.then(used, text("t9;0u0")), Keys::perform, Edge.NOT_POSSIBLE);
        Edge.act("13: possible when its turn comes", Whole.then(used, text("1u7;0d7;t9;0u7;1d7")), Keys::perform, 0);
        Edge.refused("13: not possible any more when its turn comes", Whole.then(used, text("1u7;t9;1u7")), Keys::perform,
                Edge.NOT_POSSIBLE);
        Edge.refused("13: FULL", Whole.then(used, text("t9;0d1;0d2;0d3;0d4;0d5;0d6")), Keys::perform, Edge.FULL);
        Edge.act("13: five", Whole.then(used, text("t9;0d1;0d2;0d3;0d4;0d5")), Keys::perform, 0);
        Edge.act("13: room when its turn comes", Whole.then(used, text("0d1;0d2;0d3;0d4;0d5;0u1;0d6")), Keys::perform, 0);
        Edge.refused("13: NOT_POSSIBLE before FULL", Whole.then(used, text("0d1;0d2;0d3;0d4;0d5;0d7")), Keys::perform,
                Edge.NOT_POSSIBLE);
        Edge.refused("13: the first of two errors", Whole.then(used, text("0d7;0d99")), Keys::perform, Edge.NOT_POSSIBLE);
        Edge.refused("13: the first of two errors, the other way round", Whole.then(used, text("0d99;0d7")), Keys::perform,
                Edge.UNKNOWN);
        Edge.refused("13: a fault before errors", Whole.then(used, text("0d99;0d7;t0")), Keys::perform, FAULTS - 10);
        Edge.refused("13: an error in the last move of many", Whole.then(used, text("0d1;t9;0u1;t9;1u7;t9;0d24")), Keys::perform,
                Edge.UNKNOWN);
    }

    /** "how many strokes end in it": of all its moves together. */
    private static void howManyEnd() {
        Edge.act("13: none", text("0d0"), Keys::perform, 0);
        Edge.act("13: one", text("0d0;t4;0u0;t4"), Keys::perform, 1);
        Edge.act("13: one, just not", text("t1;0d0;t4;0u0;t3"), Keys::perform, 0);
        Edge.act("13: one, just so", text("t1;0d0;t4;0u0;t4"), Keys::perform, 1);
        Edge.act("13: in three moves", text("0d0;1d1;t4;0u0;t4;1u1;0d2;t4;0u2;t4"), Keys::perform, 3);
        Edge.act("13: three at once", text("0d0;1d1;0d2;t4;0u0;1u1;0u2;t99"), Keys::perform, 3);
        Edge.tells("13: the text stays, and does it again", Whole.then(text("0d0;t4;0u0;t4"), Keys::perform), Keys::perform, 1);
        Edge.tells("13: its length", Whole.then(text("0d0;t4;0u0;t4"), Keys::perform), k -> k.count(15), 13);
    }

    /** "This is one act", and the text is no part of what it brings back. */
    private static void oneAct() {
        Keys.Way way = Whole.then(TextEdgesTest::used, text("0d1;t4;0u1;t4"));
        Edge.act("13: one act", way, Keys::perform, 1);
        Keys.Way undone = k -> {
            way.on(k);
            k.perform();
            k.clearText();
            Edge.write(k, "t5");
            k.undo();
        };
        Edge.tells("14: undo leaves the text", undone, k -> k.count(15), 2);
        Edge.tells("14: and goes back before all moves", undone, k -> k.count(0), 6);
        Edge.tells("14: it is the later text that is performed", Whole.then(undone, Keys::perform), k -> k.count(0), 11);
        Keys.Way restored = k -> {
            way.on(k);
            k.keep();
            k.clearText();
            k.restore();
        };
        Edge.tells("16: restore leaves the text", restored, k -> k.count(15), 0);
    }

    public static void main(String[] args) {
        sixtyCharacters();
        anyCharacter();
        places();
        faults();
        longestScript();
        numbers();
        errors();
        howManyEnd();
        oneAct();
        Due.tell();
    }
}
