/** A SandPlates that counts its calls: behind the 512th nothing is promised, so no test may lean on it. */
final class Counted {
    static final int MOST_CALLS = 512;

    private final SandPlates plates = new SandPlates();
    private int calls;

    private SandPlates next() {
        calls++;
        if (calls > MOST_CALLS) {
            throw new IllegalStateException("a test uses one object for more than " + MOST_CALLS + " calls");
        }
        return plates;
    }

    int type(int letter) {
        return next().type(letter);
    }

    int clear() {
        return next().clear();
    }

    int tells() {
        return next().tells();
    }

    int shakes(int n) {
        return next().shakes(n);
    }

    int sets(int what, int n) {
        return next().sets(what, n);
    }

    int drives(int x, int y) {
        return next().drives(x, y);
    }

    int draws(int x, int y, int is) {
        return next().draws(x, y, is);
    }

    int sands() {
        return next().sands();
    }

    int undo() {
        return next().undo();
    }

    int cell(int x, int y, int what) {
        return next().cell(x, y, what);
    }

    int setting(int what) {
        return next().setting(what);
    }

    int height(int x, int y, int n) {
        return next().height(x, y, n);
    }

    int still(int what) {
        return next().still(what);
    }

    int best(int what) {
        return next().best(what);
    }

    int lies() {
        return next().lies();
    }

    int sees(int cell, int is) {
        return next().sees(cell, is);
    }

    int forget() {
        return next().forget();
    }

    int which(int what) {
        return next().which(what);
    }

    int look() {
        return next().look();
    }

    int keep(int image) {
        return next().keep(image);
    }

    int back(int image) {
        return next().back(image);
    }

    int count(int what) {
        return next().count(what);
    }
}
