import java.util.List;

/** Compares answers with those that are due, and tells how many were not. */
final class Due {
    private static final int TOLD_AT_MOST = 100;

    private static int wrong = 0;
    private static int looked = 0;

    private Due() {
    }

    private static void tellWrong(String call, Object got, Object want) {
        wrong++;
        if (wrong <= TOLD_AT_MOST) {
            System.out.println(call + " answered " + got + ", due is " + want);
        }
    }

    static void is(String call, long got, long want) {
        looked++;
        if (got != want) {
            tellWrong(call, got, want);
        }
    }

    static void is(String label, String call, long got, long want) {
        looked++;
        if (got != want) {
            tellWrong(label + call, got, want);
        }
    }

    static void is(String call, float got, float want) {
        looked++;
        if (Float.floatToIntBits(got) != Float.floatToIntBits(want)) {
            tellWrong(call, got, want);
        }
    }

    static void isNoNumber(String call, float got) {
        is(call, got, Float.NaN);
    }

    /** Both were told the same questions; the first that they answer otherwise is named. */
    static void same(String label, List<Whole.Told> got, List<Whole.Told> want) {
        looked++;
        for (int i = 0; i < want.size(); i++) {
            Whole.Told due = want.get(i);
            if (i >= got.size() || got.get(i).answer() != due.answer()) {
                String call = label + ": " + due.after() + due.question();
                tellWrong(call, i < got.size() ? got.get(i).answer() : "nothing", due.answer());
                return;
            }
        }
    }

    static int wrong() {
        return wrong;
    }

    static void tell() {
        System.out.println(wrong == 0 ? looked + " answers are as due" : wrong + " answers are not as due");
        if (wrong != 0) {
            System.exit(1);
        }
    }
}
