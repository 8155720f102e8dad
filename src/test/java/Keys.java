/** The public face, so that the same calls can be made on the program and on the plain model. */
interface Keys {
    int build(int rows, int columns);

    int setSign(int key, char sign);

    int setShift(int typist, int key);

    int borrow(int typist, boolean is);

    int set(int what, int bits);

    int press(int typist, int key);

    int release(int typist, int key);

    int tick(int ticks);

    int settle(int dispute, int who);

    int type(char character);

    int clearText();

    int perform();

    int undo();

    int keep();

    int restore();

    int key(int key, int what);

    int typist(int typist, int what);

    float style(int typist, int what);

    int hundredths(int typist, int what);

    int typed(int typist, int back);

    int stroke(int back, int what);

    int dispute(int dispute, int what);

    float distance(int typist, int since, int dwell);

    int verdict(int key);

    int ghostsBy(int key);

    int count(int what);

    /** Calls that bring an object somewhere. */
    interface Way {
        void on(Keys k);
    }

    /** One call and its answer; of a float, the bits. */
    interface Call {
        long on(Keys k);
    }
}
