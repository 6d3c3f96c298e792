/** An InterchangeDesk that counts its calls: what it answers behind the 512th is free, so no test asks. */
final class Desk {
    static final int CALLS_MOST = 512;

    private final InterchangeDesk desk = new InterchangeDesk();
    private int calls = 0;

    private InterchangeDesk next() {
        calls++;
        if (calls > CALLS_MOST) {
            throw new AssertionError("a test made more than 512 calls on one object");
        }
        return desk;
    }

    boolean type(long part) {
        return next().type(part);
    }

    void wipe() {
        next().wipe();
    }

    int length() {
        return next().length();
    }

    int slot(int type, int tag, boolean must, int most) {
        return next().slot(type, tag, must, most);
    }

    int open(int type, boolean must, int most) {
        return next().open(type, must, most);
    }

    boolean close(int type) {
        return next().close(type);
    }

    boolean clear(int type) {
        return next().clear(type);
    }

    int read() {
        return next().read();
    }

    int fault() {
        return next().fault();
    }

    int interchange(int which) {
        return next().interchange(which);
    }

    int message(int i, int w) {
        return next().message(i, w);
    }

    int group(int g) {
        return next().group(g);
    }

    int segment(int s, int e, int c, int i) {
        return next().segment(s, e, c, i);
    }

    int print(int i) {
        return next().print(i);
    }

    int report(int i) {
        return next().report(i);
    }
}
