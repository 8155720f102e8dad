/** Every method with every pair of these numbers, whether they mean anything or not; the plain model must agree. */
public final class AnyArgumentsTest {
    private static final int[] NUMBERS = {Integer.MIN_VALUE, Integer.MIN_VALUE + 1, -65536, -100, -3, -2, -1, 0, 1, 2, 3, 4,
        5, 6, 7, 8, 9, 15, 16, 17, 19, 20, 21, 23, 24, 47, 48, 59, 60, 98, 99, 100, 9999, 10000, 65536, 1 << 30,
        Integer.MAX_VALUE - 1, Integer.MAX_VALUE};

    private AnyArgumentsTest() {
    }

    private static void one(BlanketKeys x, PlainModel m, int a) {
        Due.is("verdict(" + a + ")", x.verdict(a), m.verdict(a));
        Due.is("ghostsBy(" + a + ")", x.ghostsBy(a), m.ghostsBy(a));
        Due.is("count(" + a + ")", x.count(a), m.count(a));
        Due.is("borrow(" + a + ", true)", x.borrow(a, true), m.borrow(a, true));
        Due.is("tick(" + a + ")", x.tick(a), m.tick(a));
        Due.is("type(" + a + ")", x.type((char) a), m.type((char) a));
        Due.is("perform()", x.perform(), m.perform());
        Due.is("setSign(" + a + ", e)", x.setSign(a, 'e'), m.setSign(a, 'e'));
        Due.is("setSign(5, " + a + ")", x.setSign(5, (char) a), m.setSign(5, (char) a));
    }

    private static void two(BlanketKeys x, PlainModel m, int a, int b) {
        String at = "(" + a + ", " + b + ")";
        Due.is("key" + at, x.key(a, b), m.key(a, b));
        Due.is("typist" + at, x.typist(a, b), m.typist(a, b));
        Due.is("style" + at, x.style(a, b), m.style(a, b));
        Due.is("hundredths" + at, x.hundredths(a, b), m.hundredths(a, b));
        Due.is("typed" + at, x.typed(a, b), m.typed(a, b));
        Due.is("stroke" + at, x.stroke(a, b), m.stroke(a, b));
        Due.is("dispute" + at, x.dispute(a, b), m.dispute(a, b));
        for (int dwell : NUMBERS) {
            Due.is("distance" + at, x.distance(a, b, dwell), m.distance(a, b, dwell));
        }
        Due.is("set" + at, x.set(a, b), m.set(a, b));
        Due.is("settle" + at, x.settle(a, b), m.settle(a, b));
        Due.is("setShift" + at, x.setShift(a, b), m.setShift(a, b));
        Due.is("release" + at, x.release(a, b), m.release(a, b));
        Due.is("press" + at, x.press(a, b), m.press(a, b));
        Due.is("build" + at, x.build(a, b), m.build(a, b));
    }

    private static void all(BlanketKeys x, PlainModel m) {
        for (int a : NUMBERS) {
            one(x, m, a);
            for (int b : NUMBERS) {
                two(x, m, a, b);
            }
        }
    }

    public static void main(String[] args) {
        BlanketKeys x = new BlanketKeys();
        PlainModel m = new PlainModel();
        all(x, m);
        int wide = Float.floatToRawIntBits(2.0f);
        x.set(0, wide);
        m.set(0, wide);
        for (int round = 0; round < 3; round++) {
            all(x, m);
            for (int key = 0; key < 24; key++) {
                x.release(round % 2, key);
                m.release(round % 2, key);
            }
        }
        Due.tell();
    }
}
