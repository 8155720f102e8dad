import com.sun.management.ThreadMXBean;
import java.lang.management.ManagementFactory;

/**
 * All calls of one run live in one room of some 600,000 objects and 7.3 million fields and elements. An object takes 16
 * bytes at least and an element one, so that what takes less than 7.3 million bytes finds room by both counts.
 */
public final class RoomTest {
    private static final int ROOM = 7_300_000;
    private static final int MOST_CALLS = 512;
    private static final ThreadMXBean MEMORY = (ThreadMXBean) ManagementFactory.getThreadMXBean();

    private RoomTest() {
    }

    private interface Call {
        void on(BlanketKeys x, int number);
    }

    /** The bytes that an object and its 512 calls take: some ways to begin, and then one call over and over. */
    private static long taken(Call beginning, int begun, Call call) {
        long before = MEMORY.getThreadAllocatedBytes(Thread.currentThread().getId());
        BlanketKeys x = new BlanketKeys();
        for (int number = 0; number < begun; number++) {
            beginning.on(x, number);
        }
        for (int number = begun; number < MOST_CALLS; number++) {
            call.on(x, number);
        }
        return MEMORY.getThreadAllocatedBytes(Thread.currentThread().getId()) - before;
    }

    private static void fits(String name, Call beginning, int begun, Call call) {
        taken(beginning, begun, call);
        long bytes = taken(beginning, begun, call);
        Due.is("the room of 512 calls, " + name + ", of " + bytes + " bytes", bytes < ROOM ? 1 : 0, 1);
    }

    private static void fits(String name, Call call) {
        fits(name, (x, n) -> { }, 0, call);
    }

    private static void typeScript(BlanketKeys x, int number) {
        x.type("0d1;0d2;0d7;1d8;t99;0u1;0u2;0u7;1u8;t99;t99;t99;t99;t99;t99".charAt(number));
    }

    /** One call that makes disputes likely, 13 that type a script, and all others each make a dispute. */
    private static void dispute(BlanketKeys x, int number) {
        String script = "0d1;t4;0u1;t4";
        if (number == 0) {
            x.set(0, Float.floatToRawIntBits(2.0f));
        } else if (number <= script.length()) {
            x.type(script.charAt(number - 1));
        } else {
            x.perform();
        }
    }

    private static void ask(BlanketKeys x, int number) {
        switch (number % 7) {
            case 0: x.key(number % 24, 6); break;
            case 1: x.typist(number % 2, number % 8); break;
            case 2: x.style(number % 2, number / 2 % 2); break;
            case 3: x.distance(number % 2, number, number); break;
            case 4: x.verdict(number % 24); break;
            case 5: x.ghostsBy(number % 24); break;
            default: x.count(number % 16); break;
        }
    }

    public static void main(String[] args) {
        fits("build", (x, n) -> x.build(2 + n % 2, 8));
        fits("setSign", (x, n) -> x.setSign(n % 24, (char) ('a' + n % 26)));
        fits("setShift", (x, n) -> x.setShift(n / 24 % 2, n % 24));
        fits("borrow", (x, n) -> x.borrow(n / 2 % 2, n / 4 % 2 == 0));
        fits("set", (x, n) -> x.set(n % 3, n));
        fits("press and release", (x, n) -> {
            if (n % 2 == 0) {
                x.press(0, n % 24);
            } else {
                x.release(0, (n - 1) % 24);
            }
        });
        fits("tick", (x, n) -> x.press(n / 5, 5 * n), 10, (x, n) -> x.tick(99));
        fits("settle and undo", RoomTest::dispute, 34, (x, n) -> {
            if (n % 2 == 0) {
                x.settle(n / 2 % 20, 0);
            } else {
                x.undo();
            }
        });
        fits("type and clearText", (x, n) -> {
            if (n % 61 < 60) {
                x.type('0');
            } else {
                x.clearText();
            }
        });
        fits("perform", RoomTest::typeScript, 59, (x, n) -> x.perform());
        fits("perform of a fault", RoomTest::typeScript, 4, (x, n) -> x.perform());
        fits("keep and restore", (x, n) -> x.keep(), 1, (x, n) -> x.restore());
        fits("undo", (x, n) -> x.tick(1), 4, (x, n) -> x.undo());
        fits("what is told", (x, n) -> x.press(n / 5, 5 * n), 8, RoomTest::ask);
        Due.tell();
    }
}
