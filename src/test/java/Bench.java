/** A FilterBench that is used for no more calls than the document promises: later answers are free. */
final class Bench {
    static final int CALLS = 512;

    private final FilterBench inner = new FilterBench();
    private int calls = 0;

    private FilterBench next() {
        calls++;
        if (calls > CALLS) throw new IllegalStateException("a test asks an object more than " + CALLS + " times");
        return inner;
    }

    /** How many calls are left. */
    int left() {
        return CALLS - calls;
    }

    int section(int b0, int b1, int b2, int a1, int a2) {
        return next().section(b0, b1, b2, a1, a2);
    }

    int section(int[] numbers) {
        return section(numbers[0], numbers[1], numbers[2], numbers[3], numbers[4]);
    }

    int clear() {
        return next().clear();
    }

    int sections() {
        return next().sections();
    }

    int isStable(int degree, int c0, int c1, int c2, int c3, int c4) {
        return next().isStable(degree, c0, c1, c2, c3, c4);
    }

    long about(int k, int what) {
        return next().about(k, what);
    }

    long echo(int k, int n, int what) {
        return next().echo(k, n, what);
    }

    int plan(int w, int k, int way) {
        return next().plan(w, k, way);
    }

    long planned(int j, int what) {
        return next().planned(j, what);
    }

    int forge(int j, int what, long v) {
        return next().forge(j, what, v);
    }

    int check() {
        return next().check();
    }

    int told(int what) {
        return next().told(what);
    }

    long sample(int x) {
        return next().sample(x);
    }

    long kept(int j, int what) {
        return next().kept(j, what);
    }

    long drift() {
        return next().drift();
    }

    int exact(int i) {
        return next().exact(i);
    }

    int quiet() {
        return next().quiet();
    }
}
