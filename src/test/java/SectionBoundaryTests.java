import java.util.Arrays;

/** Promises 1 to 5 and "1 SECTIONS": each sentence that names a boundary, on both sides of it. */
public final class SectionBoundaryTests {
    private static final int[] FAR = {Integer.MIN_VALUE, Integer.MIN_VALUE + 1, Integer.MAX_VALUE - 1, Integer.MAX_VALUE};
    private static final int[] ORDINARY = {16384, -8192, 77, -16384, 8192};
    /** NORM of a section without a1 and a2. */
    private static final long PLAIN_NORM = 4295032836L;

    public static void main(String[] args) {
        newObject();
        numbersTaken();
        numbersRefused();
        room();
        sectionEndsThePlan();
        clearAll();
        howMany();
        degrees();
        firstNumber();
        numbersOfPolynomials();
        sizeBelowOne();
        stableSections();
        isStableLeaves();
        lastCall();
        Due.end();
    }

    private static void newObject() {
        Due.says("1: No sections, no plan");
        Due.leaves("sections()", Due::empty, x -> x.sections(), 0);
        Due.leaves("clear()", Due::empty, x -> x.clear(), 0);
        for (int what = -1; what <= 9; what++) {
            int w = what;
            Due.leaves("about(0, " + w + ")", Due::empty, x -> x.about(0, w), -1);
            Due.leaves("echo(0, 0, " + w + ")", Due::empty, x -> x.echo(0, 0, w), -1);
            Due.leaves("planned(0, " + w + ")", Due::empty, x -> x.planned(0, w), -1);
            Due.leaves("forge(0, " + w + ", 1)", Due::empty, x -> x.forge(0, w, 1), -1);
            Due.leaves("told(" + w + ")", Due::empty, x -> x.told(w), -1);
            Due.leaves("kept(0, " + w + ")", Due::empty, x -> x.kept(0, w), 0);
            Due.leaves("exact(" + w + ")", Due::empty, x -> x.exact(w), -1);
        }
        Due.leaves("plan(32, 16, 0)", Due::empty, x -> x.plan(32, 16, 0), -1);
        Due.leaves("plan(15, 16, 0)", Due::empty, x -> x.plan(15, 16, 0), -2);
        Due.leaves("check()", Due::empty, x -> x.check(), -1);
        Due.leaves("sample(0)", Due::empty, x -> x.sample(0), -1);
        Due.leaves("drift()", Due::empty, x -> x.drift(), -1);
        Due.leaves("quiet()", Due::empty, x -> x.quiet(), -1);
    }

    private static void numbersTaken() {
        Due.says("1 SECTIONS: each -32767 .. 32767, taken");
        for (int v = -32767; v <= 32767; v += 2 * 32767) {
            for (int i = 0; i < 5; i++) {
                int[] numbers = new int[5];
                numbers[i] = v;
                Bench x = new Bench();
                Due.due("section" + Arrays.toString(numbers), x.section(numbers), 0);
                Due.due("sections()", x.sections(), 1);
                if (i < 3) Due.due("GAIN", x.about(0, 6), (32767 * PLAIN_NORM + 16383) / 16384);
                if (i == 3) Due.due("e(1)", x.echo(0, 1, 0), -v * 262144L);
                if (i == 4) Due.due("e(2)", x.echo(0, 2, 0), -v * 262144L);
            }
            Bench x = new Bench();
            Due.due("all " + v, x.section(v, v, v, v, v), 0);
        }
    }

    private static void numbersRefused() {
        Due.says("1 SECTIONS: each -32767 .. 32767, refused; 2: OUTSIDE");
        for (int i = 0; i < 5; i++) {
            refuse(i, -32768);
            refuse(i, 32768);
            for (int v : FAR) refuse(i, v);
        }
        Due.leaves("all outside", Due::used, x -> x.section(-40000, -40000, 40000, 40000, 40000), -2);
    }

    private static void refuse(int i, int v) {
        int[] numbers = ORDINARY.clone();
        numbers[i] = v;
        String call = "section" + Arrays.toString(numbers);
        Due.leaves(call + " of none", Due::empty, x -> x.section(numbers), -2);
        Due.leaves(call + " of two", Due::used, x -> x.section(numbers), -2);
        Due.leaves(call + " of six", Due::full, x -> x.section(numbers), -2);
    }

    private static void room() {
        Due.says("1 SECTIONS: 6 at most; 2: ROOM (6)");
        Bench x = new Bench();
        for (int i = 0; i < 6; i++) {
            Due.due("section " + i, x.section(100 + i, 0, 0, 0, 0), i);
            Due.due("sections()", x.sections(), i + 1);
        }
        Due.due("a seventh", x.section(0, 0, 0, 0, 0), -3);
        Due.due("and again", x.section(0, 0, 0, 0, 0), -3);
        for (int i = 0; i < 6; i++) {
            Due.due("GAIN of " + i, x.about(i, 6), ((100 + i) * PLAIN_NORM + 16383) / 16384);
        }
        Due.due("about(6, 6)", x.about(6, 6), -1);
        Due.leaves("a seventh", Due::full, y -> y.section(1, 2, 3, 4, 5), -3);
        Due.due("clear()", x.clear(), 6);
        for (int i = 0; i < 6; i++) Due.due("anew, section " + i, x.section(i, 0, 0, 0, 0), i);
        Due.due("anew, a seventh", x.section(0, 0, 0, 0, 0), -3);
    }

    private static void sectionEndsThePlan() {
        Due.says("2: A section more: its number; there is no plan then");
        Bench x = Due.used();
        Due.due("section(1, 2, 3, 4, 5)", x.section(1, 2, 3, 4, 5), 2);
        isWithoutPlan(x);
        Bench y = Due.of(16384, 0, 0, -16384, 8192, 8192, 16384, 8192, 0, 0, 1, 2, 3, 4, 5);
        Due.due("the same state as without the plan", Due.state(x).equals(Due.state(y)) ? 1 : 0, 1);
        Due.due("plan(32, 16, 1)", x.plan(32, 16, 1), y.plan(32, 16, 1));
        Due.due("told(5)", x.told(5), 0);
        Due.due("the same plan", Due.state(x).equals(Due.state(y)) ? 1 : 0, 1);
    }

    private static void isWithoutPlan(Bench x) {
        for (int what = 0; what <= 6; what++) Due.due("told(" + what + ")", x.told(what), -1);
        for (int what = 0; what <= 8; what++) {
            Due.due("planned(0, " + what + ")", x.planned(0, what), -1);
            Due.due("forge(0, " + what + ", 0)", x.forge(0, what, 0), -1);
        }
        for (int what = 0; what <= 4; what++) Due.due("kept(0, " + what + ")", x.kept(0, what), 0);
        Due.due("check()", x.check(), -1);
        Due.due("sample(1)", x.sample(1), -1);
        Due.due("drift()", x.drift(), -1);
        Due.due("exact(-1)", x.exact(-1), -1);
        Due.due("exact(0)", x.exact(0), -1);
        Due.due("quiet()", x.quiet(), -1);
    }

    private static void clearAll() {
        Due.says("3: All sections are gone, and the plan: how many there were");
        Bench x = Due.used();
        Due.due("clear()", x.clear(), 2);
        isWithoutPlan(x);
        Due.due("as a new one", Due.state(x).equals(Due.state(Due.empty())) ? 1 : 0, 1);
        Due.due("clear() of none", x.clear(), 0);
        x = Due.full();
        Due.due("clear() of six", x.clear(), 6);
        Due.due("as a new one", Due.state(x).equals(Due.state(Due.empty())) ? 1 : 0, 1);
        Due.due("section(16384, 0, 0, 0, 0)", x.section(16384, 0, 0, 0, 0), 0);
        Due.due("plan(30, 10, 0)", x.plan(30, 10, 0), 19);
        Due.due("one place alone", x.planned(1, 0), -1);
        Due.due("sample(5)", x.sample(5), 5 << 19);
        Due.due("drift()", x.drift(), 0);
        x = Due.hard();
        Due.due("clear() without a plan", x.clear(), 2);
    }

    private static void howMany() {
        Due.says("4: How many sections there are");
        Due.leaves("of none", Due::empty, x -> x.sections(), 0);
        Due.leaves("of two", Due::used, x -> x.sections(), 2);
        Due.leaves("of six", Due::full, x -> x.sections(), 6);
        Due.leaves("of two, one of them HARD", Due::hard, x -> x.sections(), 2);
    }

    private static void stable(int want, int degree, int... given) {
        int[] c = Arrays.copyOf(given, 5);
        String call = "isStable(" + degree + ", " + Arrays.toString(c) + ")";
        Due.due(call, new Bench().isStable(degree, c[0], c[1], c[2], c[3], c[4]), want);
    }

    private static void degrees() {
        Due.says("5: NONE: degree is not 0 .. 4");
        stable(-1, -1, 1, 0, 0, 0, 0);
        stable(-1, 5, 1, 0, 0, 0, 0);
        for (int degree : FAR) stable(-1, degree, 1, 0, 0, 0, 0);
        for (int degree = 0; degree <= 4; degree++) stable(1, degree, 3, 1, 0, 0, 0);
        Due.says("STABLE: one of degree 0 is");
        for (int c0 : new int[] {-1000, -1, 1, 1000}) stable(1, 0, c0, 1000, -1000, 5, 5);
        Due.says("5: the first degree + 1 of them");
        // The root of the last number counts only from its degree on.
        stable(1, 0, 1, 2, 0, 0, 0);
        stable(0, 1, 1, 2, 0, 0, 0);
        stable(1, 1, 2, 1, 2, 0, 0);
        stable(0, 2, 2, 1, 2, 0, 0);
        stable(1, 2, 2, 1, 1, 2, 0);
        stable(0, 3, 2, 1, 1, 2, 0);
        stable(1, 3, 2, 1, 1, 1, 2);
        stable(0, 4, 2, 1, 1, 1, 2);
    }

    private static void firstNumber() {
        Due.says("5: NONE: the first one is 0");
        for (int degree = 0; degree <= 4; degree++) {
            stable(-1, degree, 0, 0, 0, 0, 0);
            stable(-1, degree, 0, 1, 0, 0, 0);
            stable(1, degree, 1, 0, 0, 0, 0);
            stable(1, degree, -1, 0, 0, 0, 0);
        }
    }

    private static void numbersOfPolynomials() {
        Due.says("5: NONE: one (of these) is not -1000 .. 1000");
        for (int degree = 0; degree <= 4; degree++) {
            for (int i = 0; i < 5; i++) {
                for (int v : new int[] {-1001, 1001, Integer.MIN_VALUE, Integer.MAX_VALUE}) {
                    int[] c = {1000, 0, 0, 0, 0};
                    c[i] = v;
                    stable(i <= degree ? -1 : 1, degree, c);
                }
                for (int v = -1000; v <= 1000; v += 2000) {
                    int[] c = {1000, 0, 0, 0, 0};
                    c[i] = v;
                    // z^n + z^(n - i) and its like have roots on the circle.
                    stable(i == 0 || i > degree ? 1 : 0, degree, c);
                }
            }
        }
    }

    private static void sizeBelowOne() {
        Due.says("STABLE: all its roots lie inside the unit circle (of size below 1)");
        // Each row has a root on the circle (or just outside), and the one like it has all inside.
        int[][] on = {{1, 1}, {1, -1}, {1000, -1000}, {-1000, -1000}, {999, 1000},
            {994, -142, -852}, {1000, 250, -750}, {1000, 0, 1000}, {1000, 1000, 1000}, {1000, -1000, 1000},
            {830, 996, 830}, {625, -1000, 625}, {500, 999, 499}, {500, -999, 499}, {1000, 1, -999}, {1000, -1, -999},
            {1000, 225, -850, -375}, {990, 66, -726, 198}, {994, -568, 994, -568}, {1000, 250, 250, -750},
            {1000, -375, 375, 625}, {510, 952, 918, 340}, {990, -814, -242, 770}, {1000, 0, 0, 1000}, {1000, 0, 0, -1000},
            {360, -768, 472, -32, -32}, {980, -490, -740, 610, -120}, {1000, -300, 600, -300, -400},
            {600, 1000, 1000, 400, 0}, {700, -910, 910, -210, 0}, {300, 740, 876, 524, 120}, {400, -930, 894, -338, 30},
            {1000, 0, 0, 0, 1000}, {1000, 0, 0, 0, -1000}};
        int[][] inside = {{1, 0}, {1000, -999}, {1000, 999}, {-1000, -999}, {1000, 999},
            {995, -142, -852}, {1000, 249, -750}, {1000, 0, 999}, {1000, 1000, 999}, {1000, -1000, 999},
            {831, 996, 830}, {626, -1000, 625}, {500, 998, 499}, {500, -998, 499}, {1000, 0, -999}, {-1000, 0, 999},
            {1000, 226, -850, -375}, {991, 66, -726, 198}, {995, -568, 994, -568}, {1000, 249, 250, -750},
            {1000, -374, 375, 625}, {511, 952, 918, 340}, {991, -814, -242, 770}, {1000, 0, 0, 999}, {1000, 0, 0, -999},
            {361, -768, 472, -32, -32}, {981, -490, -740, 610, -120}, {1000, -301, 600, -300, -400},
            {601, 1000, 1000, 400, 0}, {701, -910, 910, -210, 0}, {299, 740, 876, 524, 120}, {399, -930, 894, -338, 30},
            {1000, 0, 0, 0, 999}, {1000, 0, 0, 0, -999}};
        for (int i = 0; i < on.length; i++) {
            stable(0, on[i].length - 1, on[i]);
            stable(0, on[i].length - 1, Arrays.stream(on[i]).map(v -> -v).toArray());
            stable(1, inside[i].length - 1, inside[i]);
            stable(1, inside[i].length - 1, Arrays.stream(inside[i]).map(v -> -v).toArray());
        }
        // The last number greater than the first, by either sign.
        for (int last : new int[] {-1000, -2, 2, 1000}) {
            for (int degree = 1; degree <= 4; degree++) {
                int[] c = {1, 0, 0, 0, 0};
                c[degree] = last;
                stable(0, degree, c);
                c[0] = -1;
                stable(0, degree, c);
            }
        }
        // Roots that are all outside, whose numbers turned round are stable.
        stable(0, 1, 1, 2);
        stable(0, 2, 1, 2, 4);
        stable(0, 3, 1, 2, 4, 8);
        stable(0, 4, 1, 2, 4, 8, 16);
        stable(1, 4, 16, 8, 4, 2, 1);
    }

    private static void section(int want, int a1, int a2) {
        Bench x = Due.of(1, 0, 0, a1, a2);
        Due.due("about(0, 0) of " + a1 + ", " + a2, x.about(0, 0), want);
    }

    private static void stableSections() {
        Due.says("STABLE: A section is, if 16384 z^2 + a1 z + a2 is");
        section(1, 0, 16383);
        section(0, 0, 16384);
        section(1, 0, -16383);
        section(0, 0, -16384);
        for (int a2 : new int[] {-16383, -16382, -8192, -1, 0, 1, 8192, 16382, 16383}) {
            // The greatest size of a1 with both roots inside, and the root on the circle.
            section(1, 16383 + a2, a2);
            section(1, -16383 - a2, a2);
            section(0, 16384 + a2, a2);
            section(0, -16384 - a2, a2);
        }
        section(0, 32767, 16384);
        section(0, 0, 32767);
        section(0, 0, -32767);
        section(0, 32767, 32767);
        section(0, -32767, -32767);
    }

    private static void isStableLeaves() {
        Due.says("5: what it answers changes nothing");
        Due.leaves("a stable one", Due::used, x -> x.isStable(4, 16, 8, 4, 2, 1), 1);
        Due.leaves("one that is not", Due::full, x -> x.isStable(3, 1, 0, 0, 1, 0), 0);
        Due.leaves("a refused one", Due::used, x -> x.isStable(5, 1, 0, 0, 0, 0), -1);
    }

    private static void lastCall() {
        Due.says("An object is used for at most 512 calls");
        Bench x = Due.same();
        x.plan(47, 24, 1);
        for (int i = 0; x.left() > 2; i++) {
            int v = i % 2 == 0 ? 1 << 23 : -(1 << 23) + i;
            Due.due("sample " + i, x.sample(v), (long) v << 22);
        }
        Due.due("the last but one", x.told(5), 508);
        Due.due("the last", x.quiet(), 508);
    }
}
