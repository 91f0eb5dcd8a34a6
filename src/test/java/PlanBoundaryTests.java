/** Promises 8, 9 and 12 and "3 PLANS": each sentence that names a boundary, on both sides of it. */
public final class PlanBoundaryTests {
    private static final int[] FAR = {Integer.MIN_VALUE, Integer.MAX_VALUE};

    public static void main(String[] args) {
        argumentsTaken();
        argumentsRefused();
        none();
        fineBits();
        mostAndSlip();
        shiftIsLeast();
        shiftAtMost12();
        goodAtMost();
        outBelow0();
        greatestOut();
        firstTried();
        fullPlan();
        planStartsSamples();
        plannedRefused();
        toldRefused();
        Due.end();
    }

    private static void argumentsTaken() {
        Due.says("3 PLANS: W 16 .. 47, K 2 .. 24, WAY 0 .. 2, taken");
        for (int way = 0; way <= 2; way++) {
            plan(16, 2, way, 13);
            plan(47, 2, way, 24);
            plan(47, 24, way, 22);
            plan(25, 24, way, 0);
            plan(16, 15, way, 0);
        }
    }

    /** Of a section that gives back what it gets, W, K and WAY are told. */
    private static void plan(int w, int k, int way, int out) {
        Bench x = Due.same();
        String call = "plan(" + w + ", " + k + ", " + way + ")";
        Due.due(call, x.plan(w, k, way), out);
        int[] want = {out, w, k, way, out, 0, out + 1};
        for (int what = 0; what <= 6; what++) Due.due(call + ", told(" + what + ")", x.told(what), want[what]);
    }

    private static void argumentsRefused() {
        Due.says("8: OUTSIDE (W, K, WAY; the plan stays)");
        refuse(15, 10, 0);
        refuse(48, 10, 0);
        refuse(40, 1, 0);
        refuse(40, 25, 0);
        refuse(40, 10, -1);
        refuse(40, 10, 3);
        refuse(15, 25, 3);
        refuse(-16, -2, 0);
        for (int far : FAR) {
            refuse(far, 10, 0);
            refuse(40, far, 0);
            refuse(40, 10, far);
        }
    }

    private static void refuse(int w, int k, int way) {
        String call = "plan(" + w + ", " + k + ", " + way + ")";
        Due.leaves(call + " with a plan", Due::used, x -> x.plan(w, k, way), -2);
        Due.leaves(call + " with six sections", Due::full, x -> x.plan(w, k, way), -2);
        Due.leaves(call + " without a section", Due::empty, x -> x.plan(w, k, way), -2);
        Due.leaves(call + " with a HARD section", Due::hard, x -> x.plan(w, k, way), -2);
    }

    private static void none() {
        Due.says("3 PLANS: None, if there is no section, or a HARD one");
        Due.leaves("plan(40, 10, 0) without a section", Due::empty, x -> x.plan(40, 10, 0), -1);
        Due.leaves("plan(40, 10, 0) with a HARD one", Due::hard, x -> x.plan(40, 10, 0), -1);
        for (int at = 0; at < 6; at++) {
            Bench x = new Bench();
            for (int i = 0; i < 6; i++) x.section(16384, 0, 0, i == at ? 16384 : 0, 0);
            Due.due("the HARD one is " + at, x.plan(47, 2, 0), -1);
        }
        Due.says("8: NONE: there is none (and no plan any more)");
        Bench x = Due.used();
        Due.due("plan(24, 24, 1)", x.plan(24, 24, 1), -1);
        Bench y = Due.of(16384, 0, 0, -16384, 8192, 8192, 16384, 8192, 0, 0);
        Due.due("as without a plan", Due.state(x).equals(Due.state(y)) ? 1 : 0, 1);
        Due.due("sample(0)", x.sample(0), -1);
        Due.due("quiet()", x.quiet(), -1);
    }

    private static void fineBits() {
        Due.says("3 PLANS: FINE bits from 24 down to 0: 2^(K - 1 + FINE) has to be below 2^(W - 1)");
        // A section of 0s leaves all of FINE.
        int[][] wkf = {{16, 16, -1}, {16, 15, 0}, {16, 14, 1}, {16, 2, 13}, {16, 24, -1}, {24, 24, -1}, {25, 24, 0},
            {26, 24, 1}, {47, 24, 22}, {47, 23, 23}, {47, 22, 24}, {47, 21, 24}, {47, 2, 24}, {27, 2, 24}, {26, 2, 23}};
        for (int[] p : wkf) {
            Bench x = Due.of(0, 0, 0, 0, 0);
            String call = "plan(" + p[0] + ", " + p[1] + ", 0)";
            Due.due(call, x.plan(p[0], p[1], 0), p[2]);
            Due.due(call + ", FINE", x.told(0), p[2]);
            Due.due(call + ", good ones", x.told(6), p[2] < 0 ? -1 : p[2] + 1);
        }
    }

    private static void place(Bench x, int j, long shift, long most, long slip) {
        Due.due("SHIFT of " + j, x.planned(j, 6), shift);
        Due.due("MOST of " + j, x.planned(j, 7), most);
        Due.due("SLIP of " + j, x.planned(j, 8), slip);
    }

    private static void mostAndSlip() {
        Due.says("3 PLANS: T = GAIN / 65536, rounded up; MOST' is MOST T / 65536, rounded up");
        // GAIN is 4295032836, four more than 65537 times 65536.
        Bench x = Due.same();
        x.plan(16, 2, 0);
        place(x, 0, 0, 16385, 2);
        x.plan(47, 24, 0);
        place(x, 0, 0, (1L << 45) + (1L << 30), 2);
        // Here it is 14479 times 65536.
        x = Due.of(2531, 0, 0, -2900, 0);
        Due.due("GAIN", x.about(0, 6), 948895744L);
        x.plan(40, 22, 0);
        place(x, 0, 0, 14479L << 22, 2);
        // GAIN 0: nothing comes out but what is rounded.
        x = Due.of(0, 0, 0, 0, 0);
        x.plan(40, 10, 0);
        place(x, 0, 0, 0, 2);
        Due.says("3 PLANS: SLIP' is SLIP T / 65536, rounded up, and NORM / ONE (by NEAREST NORM / (2 ONE)), rounded up");
        x = Due.of(16384, 0, 0, 0, 0, 16384, 0, 0, 0, 0, 16384, 0, 0, 0, 0);
        x.plan(40, 10, 0);
        for (int j = 0; j < 3; j++) Due.due("SLIP, DOWN, of " + j, x.planned(j, 8), new int[] {2, 5, 8}[j]);
        x.plan(40, 10, 1);
        for (int j = 0; j < 3; j++) Due.due("SLIP, CARRIED, of " + j, x.planned(j, 8), new int[] {2, 5, 8}[j]);
        x.plan(40, 10, 2);
        for (int j = 0; j < 3; j++) Due.due("SLIP, NEAREST, of " + j, x.planned(j, 8), new int[] {1, 3, 5}[j]);
        // NORM is 21475273411, a little above 5 ONE.
        x = Due.of(16384, 0, 0, -16384, 8192);
        x.plan(40, 10, 1);
        Due.due("SLIP, 5 and a little, up", x.planned(0, 8), 6);
        x.plan(40, 10, 2);
        Due.due("SLIP, 2.5 and a little, up", x.planned(0, 8), 3);
    }

    private static void shiftIsLeast() {
        Due.says("3 PLANS: SHIFT is the least number by which both together are below 2^(W - 1)");
        // MOST' and SLIP' are 32765 and 2, then 32766 and 2.
        Bench x = Due.of(32764, 0, 0, 0, 0);
        Due.due("plan(16, 2, 0), one below", x.plan(16, 2, 0), 13);
        place(x, 0, 0, 32765, 2);
        x = Due.of(32765, 0, 0, 0, 0);
        Due.due("plan(16, 2, 0), just it", x.plan(16, 2, 0), 12);
        Due.says("3 PLANS: SLIP is SLIP' / 2^SHIFT, rounded up, and 1 more if SHIFT is not 0");
        Due.due("FINE", x.told(0), 13);
        place(x, 0, 1, 16383, 2);
        Due.says("3 PLANS: SHIFT is the least number by which both together are below 2^(W - 1)");
        x = Due.of(32767, 32762, 0, 0, 0);
        Due.due("plan(16, 2, 0), one below", x.plan(16, 2, 0), 12);
        place(x, 0, 1, 32765, 2);
        x = Due.of(32767, 32763, 0, 0, 0);
        Due.due("plan(16, 2, 0), just it", x.plan(16, 2, 0), 11);
        place(x, 0, 2, 16383, 2);
        // By NEAREST SLIP' is 1.
        x = Due.of(32765, 0, 0, 0, 0);
        Due.due("plan(16, 2, 2), one below", x.plan(16, 2, 2), 13);
        place(x, 0, 0, 32766, 1);
        x = Due.of(32766, 0, 0, 0, 0);
        Due.due("plan(16, 2, 2), just it", x.plan(16, 2, 2), 12);
        // FINE 13 with SHIFT 1 has the same OUT, but a SLIP of 2.
        Due.due("FINE", x.told(0), 12);
        place(x, 0, 0, 16384, 1);
    }

    private static void shiftAtMost12() {
        Due.says("3 PLANS: SHIFT 0 .. 12 (none: not good)");
        Bench x = Due.of(32767, 32767, 0, -31795, 15426);
        Due.due("plan(28, 3, 0)", x.plan(28, 3, 0), 11);
        // FINE 24 would need 13.
        Due.due("FINE", x.told(0), 23);
        Due.due("SHIFT", x.planned(0, 6), 12);
        Due.due("good ones", x.told(6), 24);
    }

    private static void goodAtMost() {
        Due.says("3 PLANS: GOOD: MOST' and SLIP' together are at most 2^46");
        // T is 131072, so that MOST' is 2^46 with FINE 24, and SLIP' is 1: no SHIFT helps.
        Bench x = Due.of(20146, 0, 0, 3162, -746);
        Due.due("plan(47, 22, 2)", x.plan(47, 22, 2), 23);
        Due.due("FINE", x.told(0), 23);
        Due.due("good ones", x.told(6), 24);
        place(x, 0, 0, 1L << 45, 1);
        // T is 131065.
        x = Due.of(20145, 0, 0, 3162, -746);
        Due.due("plan(47, 22, 2)", x.plan(47, 22, 2), 24);
        Due.due("good ones", x.told(6), 25);
        place(x, 0, 0, 131065L << 29, 1);
    }

    private static void outBelow0() {
        Due.says("3 PLANS: OUT is FINE less all SHIFTS; below 0: not good");
        // GAIN is about 6: SHIFT is 2 with FINE 2, and 2 with FINE 0.
        Bench x = Due.of(32767, 32767, 32767, 0, 0);
        Due.due("plan(17, 15, 0)", x.plan(17, 15, 0), -1);
        Due.due("told(4)", x.told(4), -1);
        Due.due("plan(18, 15, 0)", x.plan(18, 15, 0), 0);
        Due.due("told(4)", x.told(4), 0);
        Due.due("all SHIFTS", x.planned(0, 6), x.told(0));
        // By one order of two it is below 0, by the other it is 0.
        x = Due.of(32767, 32767, 32767, 0, 0, 1000, 0, 0, 0, 0);
        Due.due("plan(16, 15, 0)", x.plan(16, 15, 0), 0);
        Due.due("good ones", x.told(6), 1);
        Due.due("the order", x.planned(0, 0), 1);
    }

    private static void greatestOut() {
        Due.says("3 PLANS: the good one with the greatest OUT, of these with the least SLIP at the end");
        Bench x = Due.of(32767, 32767, 32767, 0, 0, 1000, 0, 0, 0, 0);
        Due.due("plan(24, 16, 0)", x.plan(24, 16, 0), 7);
        Due.due("the greatest OUT: 1 0", x.planned(0, 0), 1);
        Due.due("plan(40, 4, 0)", x.plan(40, 4, 0), 24);
        Due.due("the least SLIP: 0 1", x.planned(0, 0), 0);
        Due.due("SLIP", x.planned(1, 8), 3);
        x = Due.of(1000, 0, 0, 0, 0, 32767, 32767, 32767, 0, 0);
        Due.due("plan(24, 16, 0)", x.plan(24, 16, 0), 7);
        Due.due("the greatest OUT: 0 1", x.planned(0, 0), 0);
        Due.due("plan(40, 4, 0)", x.plan(40, 4, 0), 24);
        Due.due("the least SLIP: 1 0", x.planned(0, 0), 1);
    }

    private static void order(String call, Bench x, int... want) {
        for (int j = 0; j < want.length; j++) Due.due(call + ", place " + j, x.planned(j, 0), want[j]);
    }

    private static void firstTried() {
        Due.says("3 PLANS: of these the first that was tried: orders by their rows of numbers");
        Bench x = Due.of(5000, 32767, 0, 8192, 0, 32767, 0, 0, -14336, 0, 32767, 0, 0, -14336, 0);
        Due.due("plan(30, 5, 2)", x.plan(30, 5, 2), 14);
        order("0 1 2, not 0 2 1", x, 0, 1, 2);
        x = Due.of(0, 1000, 0, 0, 0, 8192, 0, 0, -16384, 8192, 20000, 5000, 0, -14336, 0);
        Due.due("plan(23, 4, 1)", x.plan(23, 4, 1), 17);
        order("0 2 1, not 1 0 2", x, 0, 2, 1);
        x = Due.of(8192, 0, 0, 8192, 0, 32767, 0, 0, 0, 0, 0, 32767, 0, -16384, 8192);
        Due.due("plan(28, 6, 0)", x.plan(28, 6, 0), 17);
        order("1 0 2, not 1 2 0", x, 1, 0, 2);
        x = Due.of(32767, 1000, 0, -14336, 0, 8192, 0, 0, -16384, 8192, 1000, 0, 0, 8192, 0);
        Due.due("plan(28, 12, 2)", x.plan(28, 12, 2), 13);
        order("1 2 0, not 2 0 1", x, 1, 2, 0);
        x = Due.of(16384, 0, 0, -14336, 0, 32767, 32767, 0, -14336, 0, 20000, 0, 0, -16384, 8192);
        Due.due("plan(20, 7, 0)", x.plan(20, 7, 0), 2);
        order("2 0 1, not 2 1 0", x, 2, 0, 1);
        Due.says("3 PLANS: of these the first that was tried: with each order FINE from 24 down");
        x = Due.of(16384, 32767, 0, 0, 0);
        Due.due("plan(40, 20, 0)", x.plan(40, 20, 0), 18);
        Due.due("FINE 19 with SHIFT 1, not 18 with 0", x.told(0), 19);
        // The order 1 0 has a plan as good with FINE 9.
        x = Due.of(32767, 0, 0, 0, 0, 20000, 0, 0, 0, 12000);
        Due.due("plan(18, 8, 2)", x.plan(18, 8, 2), 6);
        order("0 1, not 1 0", x, 0, 1);
        Due.due("FINE 8, not 9", x.told(0), 8);
    }

    private static void fullPlan() {
        Due.says("3 PLANS: TRIED are all ORDERS of the sections");
        int orders = 1;
        for (int n = 1; n <= 6; n++) {
            orders *= n;
            Bench x = new Bench();
            for (int i = 0; i < n; i++) x.section(16384, 0, 0, 0, 0);
            Due.due("plan(47, 10, 0) of " + n, x.plan(47, 10, 0), 24);
            Due.due("good ones of " + n, x.told(6), 25 * orders);
            for (int j = 0; j < n; j++) Due.due("place " + j + " of " + n, x.planned(j, 0), j);
            Due.due("place " + n + " of " + n, x.planned(n, 0), -1);
            Due.due("check()", x.check(), 0);
        }
        // The one that takes least comes last, wherever it stands: 0s with the least SLIP.
        for (int at = 0; at < 6; at++) {
            Bench x = new Bench();
            for (int i = 0; i < 6; i++) x.section(i == at ? 0 : 16384, 0, 0, 0, 0);
            Due.due("plan(40, 10, 0)", x.plan(40, 10, 0), 24);
            Due.due("the last place", x.planned(5, 0), at);
            Due.due("its SLIP", x.planned(5, 8), 2);
            for (int j = 0; j < 5; j++) Due.due("place " + j, x.planned(j, 0), j < at ? j : j + 1);
        }
    }

    private static void planStartsSamples() {
        Due.says("8: A plan is made, and all samples are as before the first one");
        Bench x = Due.used();
        Due.due("plan(32, 16, 1)", x.plan(32, 16, 1), 12);
        Due.due("as a new plan", Due.state(x).equals(Due.state(Due.two())) ? 1 : 0, 1);
        Due.due("quiet()", x.quiet(), 0);
        Bench y = Due.two();
        for (int v : new int[] {9999, -32768, 32768}) Due.due("sample(" + v + ")", x.sample(v), y.sample(v));
        Due.due("the same samples", Due.state(x).equals(Due.state(y)) ? 1 : 0, 1);
    }

    private static void plannedRefused() {
        Due.says("9: NONE: no plan, place, what");
        for (int what = 0; what <= 8; what++) {
            int w = what;
            for (int j : new int[] {-1, 2, 6, Integer.MIN_VALUE, Integer.MAX_VALUE}) {
                Due.leaves("planned(" + j + ", " + w + ")", Due::used, x -> x.planned(j, w), -1);
            }
            Due.leaves("planned(6, " + w + ")", Due::full, x -> x.planned(6, w), -1);
            Due.leaves("planned(0, " + w + ") without a plan", Due::hard, x -> x.planned(0, w), -1);
        }
        for (int what : new int[] {-1, 9, Integer.MIN_VALUE, Integer.MAX_VALUE}) {
            Due.leaves("planned(0, " + what + ")", Due::used, x -> x.planned(0, what), -1);
            Due.leaves("planned(5, " + what + ")", Due::full, x -> x.planned(5, what), -1);
        }
        Due.leaves("planned(0, 0)", Due::used, x -> x.planned(0, 0), 0);
        Due.leaves("planned(1, 8)", Due::used, x -> x.planned(1, 8), 6);
        Due.leaves("planned(5, 1)", Due::full, x -> x.planned(5, 1) >= 2 ? 1 : 0, 1);
    }

    private static void toldRefused() {
        Due.says("12: NONE: no plan, what");
        for (int what : new int[] {-1, 7, Integer.MIN_VALUE, Integer.MAX_VALUE}) {
            Due.leaves("told(" + what + ")", Due::used, x -> x.told(what), -1);
        }
        for (int what = 0; what <= 6; what++) {
            int w = what;
            Due.leaves("told(" + w + ") without a plan", Due::hard, x -> x.told(w), -1);
        }
        Due.leaves("told(0)", Due::used, x -> x.told(0), 15);
        Due.leaves("told(6)", Due::used, x -> x.told(6), 32);
        Due.says("12: how many samples it had since (5)");
        Bench x = Due.two();
        for (int i = 0; i < 40; i++) {
            Due.due("told(5)", x.told(5), i);
            x.sample(i);
            x.sample(32769);
        }
        Due.due("told(5), more than 32", x.told(5), 40);
    }
}
