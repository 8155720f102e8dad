/** The program behind the face. It counts its calls: what an object answers after the 512th is free, so no test asks. */
final class RealKeys implements Keys {
    static final int MOST_CALLS = 512;

    private final BlanketKeys keys = new BlanketKeys();
    private int calls;

    private BlanketKeys called() {
        calls++;
        if (calls > MOST_CALLS) {
            throw new IllegalStateException("a test makes more than 512 calls of one object");
        }
        return keys;
    }

    public int build(int rows, int columns) {
        return called().build(rows, columns);
    }

    public int setSign(int key, char sign) {
        return called().setSign(key, sign);
    }

    public int setShift(int typist, int key) {
        return called().setShift(typist, key);
    }

    public int borrow(int typist, boolean is) {
        return called().borrow(typist, is);
    }

    public int set(int what, int bits) {
        return called().set(what, bits);
    }

    public int press(int typist, int key) {
        return called().press(typist, key);
    }

    public int release(int typist, int key) {
        return called().release(typist, key);
    }

    public int tick(int ticks) {
        return called().tick(ticks);
    }

    public int settle(int dispute, int who) {
        return called().settle(dispute, who);
    }

    public int type(char character) {
        return called().type(character);
    }

    public int clearText() {
        return called().clearText();
    }

    public int perform() {
        return called().perform();
    }

    public int undo() {
        return called().undo();
    }

    public int keep() {
        return called().keep();
    }

    public int restore() {
        return called().restore();
    }

    public int key(int key, int what) {
        return called().key(key, what);
    }

    public int typist(int typist, int what) {
        return called().typist(typist, what);
    }

    public float style(int typist, int what) {
        return called().style(typist, what);
    }

    public int hundredths(int typist, int what) {
        return called().hundredths(typist, what);
    }

    public int typed(int typist, int back) {
        return called().typed(typist, back);
    }

    public int stroke(int back, int what) {
        return called().stroke(back, what);
    }

    public int dispute(int dispute, int what) {
        return called().dispute(dispute, what);
    }

    public float distance(int typist, int since, int dwell) {
        return called().distance(typist, since, dwell);
    }

    public int verdict(int key) {
        return called().verdict(key);
    }

    public int ghostsBy(int key) {
        return called().ghostsBy(key);
    }

    public int count(int what) {
        return called().count(what);
    }
}
