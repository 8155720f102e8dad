/** Promises 11 to 13: type, clearText, perform. */
public final class TextTest {
    private TextTest() {
    }

    private static void write(BlanketKeys x, String text) {
        x.clearText();
        for (int i = 0; i < text.length(); i++) {
            x.type(text.charAt(i));
        }
    }

    private static int perform(String text) {
        BlanketKeys x = new BlanketKeys();
        write(x, text);
        return x.perform();
    }

    private static void type() {
        BlanketKeys x = new BlanketKeys();
        char[] any = {'a', 0, 0xFFFF, ' ', ';', 233, '0', 0x20AC};
        for (int i = 1; i <= 60; i++) {
            Due.is("11: character " + i, x.type(any[i % any.length]), i);
        }
        Due.is("11: full", x.type('x'), BlanketKeys.FULL);
        Due.is("11: length stays", x.count(15), 60);
        Due.is("11: no act", x.count(14), 0);
        Due.is("12: length that it had", x.clearText(), 60);
        Due.is("12: empty", x.count(15), 0);
        Due.is("12: again", x.clearText(), 0);
        Due.is("12: no act", x.count(14), 0);
        Due.is("11: room again", x.type('t'), 1);
    }

    private static void faults() {
        Object[][] texts = {
            {"", 0}, {"0", 1}, {"0d", 2}, {"0u", 2}, {"t", 1}, {"0d1;", 4}, {"t5;", 3}, {"t5;0", 4},
            {";", 0}, {"2d1", 0}, {"-", 0}, {"d1", 0}, {"T1", 0}, {" 0d1", 0}, {"u", 0},
            {"00d1", 1}, {"0x1", 1}, {"0D1", 1}, {"0t5", 1}, {"0;", 1}, {"01", 1},
            {"0dd", 2}, {"0d;", 2}, {"0d-1", 2}, {"0d/", 2}, {"0d:", 2},
            {"0d00", 3}, {"0d01", 3}, {"0d0d", 3}, {"0d1d", 3}, {"0d1 ", 3}, {"0d1,", 3},
            {"0d100", 4}, {"0d230", 4}, {"0d12d", 4},
            {"t0", 1}, {"t;", 1}, {"tt", 1}, {"t-", 1}, {"t05", 1}, {"t100", 3}, {"t1x", 2}, {"t10x", 3},
            {"0d1;;0u1", 4}, {"0d1;t4;0u1;t4;", 14}, {"0d1;t4;0u1;t0", 12}, {"0d1;2", 4}, {"0d\u0661", 2}, {"\u0000", 0},
            {"t1\u0000", 2}, {"0d1;t", 5},
        };
        for (Object[] text : texts) {
            Due.is("13: perform of \"" + text[0] + "\"", perform((String) text[0]), -100 - (Integer) text[1]);
        }
        StringBuilder full = new StringBuilder("t1");
        while (full.length() < 59) {
            full.append(";t1");
        }
        Due.is("13: 59 characters", perform(full.toString()), 0);
        Due.is("13: ends too early at 60", perform(full.append(';').toString()), -160);
    }

    private static void moves() {
        Due.is("13: t1", perform("t1"), 0);
        Due.is("13: t99", perform("t99"), 0);
        Due.is("13: 0d0", perform("0d0"), 0);
        Due.is("13: 0d9", perform("0d9"), 0);
        Due.is("13: 0d23", perform("0d23"), 0);
        Due.is("13: 0d24", perform("0d24"), BlanketKeys.UNKNOWN);
        Due.is("13: 0d99", perform("0d99"), BlanketKeys.UNKNOWN);
        Due.is("13: 1u24", perform("1u24"), BlanketKeys.UNKNOWN);
        Due.is("13: 1u3", perform("1u3"), BlanketKeys.NOT_POSSIBLE);
        Due.is("13: 1d3;0u3", perform("1d3;0u3"), BlanketKeys.NOT_POSSIBLE);
        Due.is("13: 0d3;1d3", perform("0d3;1d3"), BlanketKeys.NOT_POSSIBLE);
        Due.is("13: six", perform("0d0;0d1;0d2;0d3;0d4;0d5"), BlanketKeys.FULL);
        Due.is("13: five and one", perform("0d0;0d1;0d2;0d3;0d4;1d5"), 0);
        Due.is("13: the first of two errors", perform("0d1;0d1;0d99"), BlanketKeys.NOT_POSSIBLE);
        Due.is("13: a fault behind an error", perform("0d99;x"), -105);
        Due.is("13: strokes that end", perform("0d1;1d2;t4;0u1;t4;1u2;t9"), 2);
        BlanketKeys x = new BlanketKeys();
        write(x, "1d0;t14;0d13;t10");
        Due.is("13: two hands", x.perform(), 0);
        Due.is("13: ticks of two digits", x.count(0), 24);
        Due.is("13: 1 holds 0", x.key(0, 0), 1);
        Due.is("13: 0 holds 13", x.key(13, 0), 0);
        Due.is("13: 13 is seen since", x.key(13, 2), 14);
        Due.is("13: one act", x.count(14), 1);
        Due.is("13: the text stays", x.count(15), 16);
        Due.is("13: again is not possible", x.perform(), BlanketKeys.NOT_POSSIBLE);
        write(x, "0u13;1u0;t1");
        Due.is("13: release", x.perform(), 1);
        Due.is("13: up", x.count(3), 0);
    }

    private static void allOrNone() {
        BlanketKeys x = new BlanketKeys();
        x.setSign(1, 'a');
        x.press(0, 1);
        x.tick(4);
        x.release(0, 1);
        write(x, "t4;1d5;t9;0u7");
        Due.is("13: fails at the end", x.perform(), BlanketKeys.NOT_POSSIBLE);
        Due.is("13: no ticks", x.count(0), 4);
        Due.is("13: no stroke", x.count(6), 0);
        Due.is("13: no sign", x.typist(0, 6), 0);
        Due.is("13: nothing learned", x.typist(0, 7), BlanketKeys.NONE);
        Due.is("13: nothing down", x.count(3), 0);
        Due.is("13: still seen", x.key(1, 1), 1);
        Due.is("13: history as it was", x.count(14), 4);
        Due.is("13: none dropped", x.undo() + x.undo() + x.undo() + x.undo(), 6);
        Due.is("13: back to the beginning", x.key(1, 4), '.');
        Due.is("13: text is there", x.count(15), 13);
    }

    private static void undone() {
        BlanketKeys x = new BlanketKeys();
        write(x, "0d0;t8;0u0;t4");
        Due.is("13: one stroke", x.perform(), 1);
        Due.is("13: again", x.perform(), 1);
        Due.is("13: two acts", x.count(14), 2);
        Due.is("14: undo", x.undo(), 1);
        Due.is("14: ticks", x.count(0), 12);
        Due.is("14: strokes", x.count(6), 1);
        Due.is("14: text stays", x.count(15), 13);
    }

    public static void main(String[] args) {
        type();
        faults();
        moves();
        allOrNone();
        undone();
        Due.tell();
    }
}
