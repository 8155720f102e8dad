/** Every method with every pair of these numbers, whether they mean anything or not; the plain model must agree. */
public final class AnyArgumentsTest {
    private static final int[] NUMBERS = {Integer.MIN_VALUE, Integer.MIN_VALUE + 1, -65536, -100, -3, -2, -1, 0, 1, 2, 3, 4,
        5, 6, 7, 8, 9, 15, 16, 17, 19, 20, 21, 23, 24, 47, 48, 59, 60, 98, 99, 100, 9999, 10000, 65536, 1 << 30,
        Integer.MAX_VALUE - 1, Integer.MAX_VALUE};

    private static Keys.Way way;
    private static Keys program;
    private static Keys model;
    private static int calls;
    private static String arguments;

    private AnyArgumentsTest() {
    }

    private static void begin() {
        program = new RealKeys();
        model = new PlainModel();
        way.on(program);
        way.on(model);
        calls = 0;
    }

    private static void same(String call, Keys.Call asked) {
        if (calls == 400) {
            begin();
        }
        calls++;
        Due.is(arguments, call, asked.on(program), asked.on(model));
    }

    private static void one(int a) {
        same("verdict", k -> k.verdict(a));
        same("ghostsBy", k -> k.ghostsBy(a));
        same("count", k -> k.count(a));
        same("borrow", k -> k.borrow(a, true));
        same("tick", k -> k.tick(a));
        same("type", k -> k.type((char) a));
        same("perform", Keys::perform);
        same("setSign", k -> k.setSign(a, 'e'));
        same("setSign of 5", k -> k.setSign(5, (char) a));
    }

    private static void two(int a, int b) {
        same("key", k -> k.key(a, b));
        same("typist", k -> k.typist(a, b));
        same("style", k -> Whole.bits(k.style(a, b)));
        same("hundredths", k -> k.hundredths(a, b));
        same("typed", k -> k.typed(a, b));
        same("stroke", k -> k.stroke(a, b));
        same("dispute", k -> k.dispute(a, b));
        for (int dwell : NUMBERS) {
            same("distance", k -> Whole.bits(k.distance(a, b, dwell)));
        }
        same("set", k -> k.set(a, b));
        same("settle", k -> k.settle(a, b));
        same("setShift", k -> k.setShift(a, b));
        same("release", k -> k.release(a, b));
        same("press", k -> k.press(a, b));
        same("build", k -> k.build(a, b));
    }

    private static void all(Keys.Way from) {
        way = from;
        begin();
        for (int a : NUMBERS) {
            arguments = "with " + a + ": ";
            one(a);
            for (int b : NUMBERS) {
                arguments = "with " + a + " and " + b + ": ";
                two(a, b);
            }
        }
    }

    private static void halfway(Keys k) {
        k.set(0, Float.floatToRawIntBits(2.0f));
        k.setSign(5, 'e');
        k.setShift(1, 7);
        for (int i = 0; i < 3; i++) {
            k.press(i % 2, 5);
            k.press(1, 7);
            k.tick(4);
            k.release(i % 2, 5);
            k.tick(4 + i);
        }
        k.settle(0, 0);
        k.keep();
        k.press(0, 0);
    }

    public static void main(String[] args) {
        all(k -> { });
        all(AnyArgumentsTest::halfway);
        Due.tell();
    }
}
