/** Compares answers with those that are due, and tells how many were not. */
final class Due {
    private static int wrong = 0;
    private static int looked = 0;

    private Due() {
    }

    static void is(String call, long got, long want) {
        looked++;
        if (got != want) {
            wrong++;
            System.out.println(call + " answered " + got + ", due is " + want);
        }
    }

    static void is(String call, float got, float want) {
        looked++;
        if (Float.floatToIntBits(got) != Float.floatToIntBits(want)) {
            wrong++;
            System.out.println(call + " answered " + got + ", due is " + want);
        }
    }

    static void isNoNumber(String call, float got) {
        is(call, got, Float.NaN);
    }

    static int wrong() {
        return wrong;
    }

    static void tell() {
        System.out.println(wrong == 0 ? looked + " answers are as due" : wrong + " answers are not as due");
        if (wrong != 0) {
            System.exit(1);
        }
    }
}
