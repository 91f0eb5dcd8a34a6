/** Each promise of the document in turn: ordinary inputs, the edges it names, and wrong inputs. */
public final class PromiseTests {
    private static final long ONE = 1L << 32;
    private static int wrong = 0;

    private static void due(String call, long got, long want) {
        if (got != want) {
            wrong++;
            System.out.println(call + " answered " + got + ", due is " + want);
        }
    }

    public static void main(String[] args) {
        newObject();
        section();
        clearAndSections();
        isStable();
        about();
        certificateEdges();
        echo();
        plan();
        planChoice();
        planTies();
        planned();
        forge();
        check();
        checkEdges();
        told();
        sample();
        shifts();
        ways();
        kept();
        drift();
        exact();
        quiet();
        longUse();
        System.out.println(wrong == 0 ? "all answers are as due" : wrong + " answers are not as due");
        if (wrong != 0) System.exit(1);
    }

    /** One section that gives back what it gets. */
    private static FilterBench same() {
        FilterBench x = new FilterBench();
        x.section(16384, 0, 0, 0, 0);
        return x;
    }

    /** Two sections with a plan (32, 16, 1): FINE 15, SHIFTS 2 and 1, OUT 12. */
    private static FilterBench two() {
        FilterBench x = new FilterBench();
        x.section(16384, 0, 0, -16384, 8192);
        x.section(8192, 16384, 8192, 0, 0);
        x.plan(32, 16, 1);
        return x;
    }

    private static void newObject() {
        FilterBench x = new FilterBench();
        due("1: sections()", x.sections(), 0);
        due("1: about(0, 0)", x.about(0, 0), -1);
        due("1: check()", x.check(), -1);
        due("1: told(5)", x.told(5), -1);
        due("1: sample(0)", x.sample(0), -1);
        due("1: quiet()", x.quiet(), -1);
        due("1: clear()", x.clear(), 0);
    }

    private static void section() {
        FilterBench x = new FilterBench();
        int[] at = {32767, -32767, 32767, -32767, 32767};
        due("2: edges", x.section(at[0], at[1], at[2], at[3], at[4]), 0);
        for (int i = 0; i < 5; i++) {
            int[] low = new int[5], high = new int[5], far = new int[5];
            low[i] = -32768;
            high[i] = 32768;
            far[i] = Integer.MIN_VALUE;
            due("2: low " + i, x.section(low[0], low[1], low[2], low[3], low[4]), -2);
            due("2: high " + i, x.section(high[0], high[1], high[2], high[3], high[4]), -2);
            due("2: far " + i, x.section(far[0], far[1], far[2], far[3], far[4]), -2);
        }
        due("2: sections()", x.sections(), 1);
        x.clear();
        for (int i = 0; i < 6; i++) due("2: section " + i, x.section(i, 0, 0, 0, 0), i);
        due("2: plan(30, 8, 0)", x.plan(30, 8, 0) >= 0 ? 1 : 0, 1);
        due("2: a seventh", x.section(0, 0, 0, 0, 0), -3);
        due("2: a seventh outside", x.section(32768, 0, 0, 0, 0), -2);
        due("2: the plan stays", x.told(1), 30);
        x = same();
        x.plan(30, 8, 0);
        x.section(0, 0, 0, 0, -32768);
        due("2: refused, the plan stays", x.told(1), 30);
        x.section(0, 0, 0, 0, 0);
        due("2: no plan", x.told(1), -1);
        due("2: no plan to check", x.check(), -1);
    }

    private static void clearAndSections() {
        FilterBench x = two();
        due("4: sections()", x.sections(), 2);
        due("3: clear()", x.clear(), 2);
        due("4: sections()", x.sections(), 0);
        due("3: no plan", x.told(0), -1);
        due("3: no section", x.about(0, 0), -1);
        due("3: kept", x.kept(0, 0), 0);
        due("3: clear() again", x.clear(), 0);
        due("3: from 0 on", x.section(1, 1, 1, 1, 1), 0);
        due("3: the new one's numbers", x.echo(0, 1, 0), -262144);
    }

    private static void stable(int want, int degree, int c0, int c1, int c2, int c3, int c4) {
        String call = "5: isStable(" + degree + ", " + c0 + ", " + c1 + ", " + c2 + ", " + c3 + ", " + c4 + ")";
        due(call, new FilterBench().isStable(degree, c0, c1, c2, c3, c4), want);
    }

    private static void isStable() {
        stable(1, 0, -1000, 2000, 2000, 2000, 2000);
        stable(1, 1, 2, 1, 5000, 0, 0);
        stable(0, 1, 1, -1, 0, 0, 0);
        stable(0, 1, 1, 2, 0, 0, 0);
        stable(1, 1, -1000, 999, 0, 0, 0);
        stable(1, 2, 1, 0, 0, 0, 0);
        stable(0, 2, 1, -2, 1, 0, 0);
        stable(0, 2, 1, 0, 1, 0, 0);
        stable(0, 2, 1, 0, -1, 0, 0);
        stable(1, 2, -4, 4, -1, 0, 0);
        stable(0, 2, 2, -3, 1, 0, 0);
        stable(0, 2, -2, 3, -1, 0, 0);
        stable(1, 2, 500, -998, 499, 0, 0);
        stable(0, 2, 500, -999, 499, 0, 0);
        stable(0, 2, 500, 0, 500, 0, 0);
        stable(1, 3, 8, -12, 6, -1, 0);
        stable(0, 3, 1, 0, 0, -1, 0);
        stable(0, 3, 2, -3, 3, -1, 0);
        stable(1, 3, 1000, 0, 0, 999, 0);
        stable(1, 4, 16, -32, 24, -8, 1);
        stable(0, 4, 1, 0, 0, 0, 1);
        stable(0, 4, 4, 0, 5, 0, 1);
        stable(1, 4, 5, 4, 3, 2, 1);
        stable(0, 4, 1, 2, 3, 4, 5);
        stable(1, 4, 7, 0, 0, 0, 0);
        stable(0, 4, 1000, -1000, 1000, -1000, 1000);
        stable(1, 4, -1000, 1000, -1000, 1000, -999);
        stable(-1, -1, 1, 0, 0, 0, 0);
        stable(-1, 5, 1, 0, 0, 0, 0);
        stable(-1, Integer.MAX_VALUE, 1, 0, 0, 0, 0);
        stable(-1, Integer.MIN_VALUE, 1, 0, 0, 0, 0);
        stable(-1, 2, 0, 1, 1, 0, 0);
        stable(-1, 4, 1000, 0, 0, 0, 1001);
        stable(-1, 4, 1000, -1001, 0, 0, 0);
        stable(-1, 0, 1001, 0, 0, 0, 0);
        stable(1, 3, 1000, 0, 0, 0, 1001);
    }

    private static void about() {
        FilterBench x = same();
        long[] want = {1, 0, 2, ONE + 2, 2, 4295032836L, 4295032836L};
        for (int what = 0; what <= 6; what++) due("6: about(0, " + what + ")", x.about(0, what), want[what]);
        due("6: about(0, 7)", x.about(0, 7), -1);
        due("6: about(0, -1)", x.about(0, -1), -1);
        due("6: about(1, 0)", x.about(1, 0), -1);
        due("6: about(-1, 0)", x.about(-1, 0), -1);
        x.section(-1, 2, -3, 0, 0);
        due("6: sizes of b, rounded up", x.about(1, 6), (6 * 4295032836L + 16383) / 16384);
        stableAndHard(0, 16384, 0, 1);
        stableAndHard(0, -16384, 0, 1);
        stableAndHard(-32767, 16383, 0, 1);
        stableAndHard(32767, 16383, 0, 1);
        stableAndHard(-32766, 16383, 1, 1);
        stableAndHard(0, 16383, 1, 1);
        stableAndHard(0, -16383, 1, 1);
        stableAndHard(0, 0, 1, 0);
        stableAndHard(0, 16300, 1, 0);
        stableAndHard(-16384, 8192, 1, 0);
        // All M are looked at, and the sum is too great only at its end.
        stableAndHard(-32700, 16350, 1, 1);
        stableAndHard(32767, 32767, 0, 1);
    }

    private static void certificateEdges() {
        // REST(M) is just ONE / 2.
        stableAndHard(-14881, 3405, 1, 0);
        FilterBench x = new FilterBench();
        x.section(0, 0, 1, -14881, 3405);
        long[] want = {1, 0, 4, 14697239269L, ONE / 2, 29394478538L, 1794097};
        for (int what = 0; what <= 6; what++) due("6: REST ONE / 2, " + what, x.about(0, what), want[what]);
        x.plan(40, 10, 0);
        due("11: REST ONE / 2", x.check(), 0);
        // The last M that is looked at, and one more.
        stableAndHard(-1054, -15308, 1, 0);
        stableAndHard(-991, -15371, 1, 1);
        x.clear();
        x.section(1, 0, 0, -1054, -15308);
        due("6: M 1000", x.about(0, 2), 1000);
        // The greatest NORM below 2^44, one above it, and a SUM above 2^46, which 65536 would take out of 64 bits.
        stableAndHard(-31795, 15426, 1, 0);
        stableAndHard(-31790, 15419, 1, 1);
        stableAndHard(-32552, 16169, 1, 1);
    }

    private static void stableAndHard(int a1, int a2, int isStable, int isHard) {
        FilterBench x = new FilterBench();
        x.section(1, 1, 1, a1, a2);
        String of = " of " + a1 + ", " + a2;
        due("6: stable" + of, x.about(0, 0), isStable);
        due("6: hard" + of, x.about(0, 1), isHard);
        for (int what = 2; what <= 6; what++) {
            due("6: a HARD one has none" + of, x.about(0, what) == -1 ? 1 : 0, isHard);
        }
        due("6: no plan of a HARD one" + of, x.plan(47, 2, 0) == -1 ? 1 : 0, isHard);
    }

    private static void echo() {
        FilterBench x = new FilterBench();
        x.section(0, 0, 0, 1, 0);
        long[] e = {ONE, -262144, 16, -1, 0, 0};
        long[] s = {0, 2, 2, 2, 2, 2};
        for (int n = 0; n < e.length; n++) {
            due("7: e(" + n + ")", x.echo(0, n, 0), e[n]);
            due("7: s(" + n + ")", x.echo(0, n, 1), s[n]);
            due("7: u(" + n + ")", x.echo(0, n, 2), Math.abs(e[n]) + s[n]);
            due("7: r(" + n + ")", x.echo(0, n, 3), Math.abs(e[n]) + s[n]);
        }
        x.section(0, 0, 0, 0, -3);
        due("7: r(0)", x.echo(1, 0, 3), ONE);
        due("7: r(1), rounded up", x.echo(1, 1, 3), 2 + 786432);
        due("7: r(2)", x.echo(1, 2, 3), 786432 + 2 + 1);
        due("7: n 1000", x.echo(1, 1000, 1), 2);
        due("7: n 1001", x.echo(1, 1001, 1), -1);
        due("7: n -1", x.echo(1, -1, 1), -1);
        due("7: what -1", x.echo(1, 0, -1), -1);
        due("7: what 4", x.echo(1, 0, 4), -1);
        due("7: k 2", x.echo(2, 0, 0), -1);
        due("7: k -1", x.echo(-1, 0, 0), -1);
        x.section(0, 0, 0, -32767, 0);
        due("7: u(14) is not above 2^46", x.echo(2, 14, 0) > 70000000000000L ? 1 : 0, 1);
        for (int what = 0; what <= 3; what++) {
            due("7: u(15) is", x.echo(2, 15, what), -1);
            due("7: and so for all that come", x.echo(2, 1000, what), -1);
        }
    }

    private static void plan() {
        FilterBench x = new FilterBench();
        due("8: without a section", x.plan(32, 16, 0), -1);
        x = same();
        due("8: plan(16, 2, 0)", x.plan(16, 2, 0), 13);
        due("8: plan(47, 24, 2)", x.plan(47, 24, 2), 22);
        due("8: plan(47, 2, 1)", x.plan(47, 2, 1), 24);
        due("8: FINE 0", x.plan(25, 24, 0), 0);
        due("8: no FINE", x.plan(24, 24, 0), -1);
        due("8: no plan any more", x.told(1), -1);
        x.plan(40, 10, 2);
        int[][] outside = {{15, 10, 0}, {48, 10, 0}, {40, 1, 0}, {40, 25, 0}, {40, 10, -1}, {40, 10, 3},
            {Integer.MIN_VALUE, 10, 0}, {40, Integer.MAX_VALUE, 0}, {40, 10, Integer.MIN_VALUE}};
        x.sample(3);
        for (int[] p : outside) {
            due("8: outside " + p[0] + " " + p[1] + " " + p[2], x.plan(p[0], p[1], p[2]), -2);
            due("8: the plan stays", x.told(1), 40);
            due("8: and its samples", x.told(5), 1);
        }
        due("8: anew", x.plan(40, 10, 2), 24);
        due("8: before the first sample", x.told(5), 0);
        due("8: nothing kept", x.kept(0, 0), 0);
        due("8: no drift", x.drift(), -1);
        x.section(1, 0, 0, 32767, 16384);
        due("8: with a HARD one", x.plan(40, 10, 2), -1);
        x = new FilterBench();
        x.section(32767, 32767, 32767, 0, 0);
        due("8: OUT below 0 is not good", x.plan(16, 15, 0), -1);
        due("8: and is not tried", x.told(6), -1);
        due("8: nor with one bit more", x.plan(17, 15, 0), -1);
        due("8: gain 6 takes all there are", x.plan(18, 15, 0), 0);
        due("8: and leaves one", x.plan(19, 15, 0), 1);
    }

    /** Which of the good ones is the plan. */
    private static void planChoice() {
        FilterBench x = same();
        x.section(16384, 0, 0, 0, 0);
        x.section(16384, 0, 0, 0, 0);
        x.plan(40, 10, 0);
        for (int j = 0; j < 3; j++) due("8: of equal ones the first order", x.planned(j, 0), j);
        due("8: all are good", x.told(6), 6 * 25);
        // The small one first keeps the great one from taking bits.
        x = new FilterBench();
        x.section(32767, 32767, 32767, 0, 0);
        x.section(1000, 0, 0, 0, 0);
        due("8: plan(24, 16, 0)", x.plan(24, 16, 0), 7);
        due("8: the second first", x.planned(0, 0), 1);
        due("8: then the first", x.planned(1, 0), 0);
        // OUT is equal in both orders: SLIP at the end is less when the small one is last.
        due("8: plan(40, 4, 0)", x.plan(40, 4, 0), 24);
        due("8: the first first", x.planned(0, 0), 0);
        due("8: the less SLIP", x.planned(1, 8), 3);
    }

    /** More of the choice: ties, and what is not good. */
    private static void planTies() {
        FilterBench x = new FilterBench();
        x.section(1000, 0, 0, 0, 0);
        x.section(32767, 32767, 32767, 0, 0);
        due("8: plan(40, 4, 0)", x.plan(40, 4, 0), 24);
        due("8: the less SLIP, not the first order", x.planned(0, 0), 1);
        x.sample(1);
        due("14: by the order of the plan", x.kept(0, 2), 33553408);
        due("14: then the other", x.kept(1, 0), 33553408);
        due("14: and its y", x.kept(1, 2), 2047937);
        // One bit less of FINE and of SHIFT has the same OUT and SLIP.
        x = new FilterBench();
        x.section(16384, 32767, 0, 0, 0);
        due("8: plan(40, 20, 0)", x.plan(40, 20, 0), 18);
        due("8: the greater FINE was first", x.told(0), 19);
        due("8: with a SHIFT", x.planned(0, 6), 1);
        // One of the orders has an OUT below 0.
        x = new FilterBench();
        x.section(32767, 32767, 32767, 0, 0);
        x.section(1000, 0, 0, 0, 0);
        due("8: plan(16, 15, 0)", x.plan(16, 15, 0), 0);
        due("12: only one was good", x.told(6), 1);
        // SHIFT 12 is the greatest: the finest one needs 13.
        x = new FilterBench();
        x.section(32767, 32767, 0, -31795, 15426);
        due("8: plan(28, 3, 0)", x.plan(28, 3, 0), 11);
        due("8: FINE", x.told(0), 23);
        due("8: SHIFT", x.planned(0, 6), 12);
        due("8: good ones", x.told(6), 24);
        // NEAREST slips half as far.
        x = same();
        x.plan(40, 10, 1);
        due("9: SLIP of CARRIED", x.planned(0, 8), 2);
        x.plan(40, 10, 2);
        due("9: SLIP of NEAREST", x.planned(0, 8), 1);
    }

    private static void planned() {
        FilterBench x = two();
        long[][] want = {
            {0, 4, 16106127371L, 1073741829L, 21475273411L, 21475273411L, 2, 1342205952L, 3},
            {1, 2, ONE + 2, 2, 4295032836L, 8590065672L, 1, 1342236673L, 6}};
        for (int j = 0; j < 2; j++) {
            for (int what = 0; what <= 8; what++) due("9: planned(" + j + ", " + what + ")", x.planned(j, what), want[j][what]);
        }
        due("9: what 9", x.planned(0, 9), -1);
        due("9: what -1", x.planned(0, -1), -1);
        due("9: place 2", x.planned(2, 0), -1);
        due("9: place -1", x.planned(-1, 0), -1);
        x.clear();
        due("9: no plan", x.planned(0, 0), -1);
    }

    private static void forge() {
        FilterBench x = two();
        for (int j = 0; j < 2; j++) {
            for (int what = 0; what <= 8; what++) {
                due("10: forge", x.forge(j, what, 100 * j + what), 1);
            }
        }
        for (int j = 0; j < 2; j++) {
            for (int what = 0; what <= 8; what++) due("10: forged", x.planned(j, what), 100 * j + what);
        }
        due("10: 2^50", x.forge(0, 3, 1L << 50), 1);
        due("10: is there", x.planned(0, 3), 1L << 50);
        due("10: above", x.forge(0, 3, (1L << 50) + 1), -2);
        due("10: below", x.forge(0, 3, -1), -2);
        due("10: far below", x.forge(0, 3, Long.MIN_VALUE), -2);
        due("10: stays", x.planned(0, 3), 1L << 50);
        due("10: place before v", x.forge(2, 3, -1), -1);
        due("10: what before v", x.forge(0, 9, -1), -1);
        due("10: what -1", x.forge(0, -1, 5), -1);
        due("10: place -1", x.forge(-1, 0, 5), -1);
        // The filter is as it was made, and so is what a new plan has.
        due("10: the filter", x.sample(32768), 67108864);
        due("10: OUT stays", x.told(4), 12);
        x.plan(32, 16, 1);
        due("10: a new plan", x.check(), 0);
        x.clear();
        due("10: no plan", x.forge(0, 0, 0), -1);
    }

    /** Forges one number, checks, and puts it back. */
    private static void checked(FilterBench x, int j, int what, long v, int want) {
        long old = x.planned(j, what);
        due("11: forge(" + j + ", " + what + ", " + v + ")", x.forge(j, what, v), 1);
        due("11: check() with " + v + " at " + j + ", " + what, x.check(), want);
        x.forge(j, what, old);
        due("11: put back", x.check(), 0);
    }

    private static void check() {
        FilterBench x = two();
        due("11: check()", x.check(), 0);
        checked(x, 0, 0, 2, 11);
        checked(x, 0, 0, 1L << 32, 11);
        checked(x, 1, 0, 0, 21);
        checked(x, 0, 1, 1, 12);
        checked(x, 0, 1, 3, 12);
        checked(x, 0, 1, 5, 12);
        checked(x, 0, 1, 1001, 12);
        checked(x, 0, 1, (1L << 32) + 4, 12);
        checked(x, 0, 2, x.planned(0, 2) - 1, 12);
        checked(x, 0, 2, x.planned(0, 2) + 100, 13);
        checked(x, 0, 2, 1L << 46, 13);
        checked(x, 0, 2, (1L << 46) + 1, 12);
        checked(x, 0, 3, x.planned(0, 3) - 1, 12);
        checked(x, 0, 3, x.planned(0, 3) + 65536, 13);
        checked(x, 0, 3, (1L << 31) + 1, 12);
        checked(x, 1, 4, x.planned(1, 4) - 1, 23);
        checked(x, 1, 4, (1L << 44) + 1, 23);
        checked(x, 1, 4, 1L << 50, 23);
        checked(x, 1, 4, x.planned(1, 4) + 1, 24);
        checked(x, 1, 5, x.planned(1, 5) - 1, 24);
        checked(x, 1, 5, (1L << 48) + 1, 24);
        checked(x, 1, 5, 1L << 48, 25);
        checked(x, 1, 5, x.planned(1, 5) + 65536, 26);
        checked(x, 0, 6, 12, 27);
        checked(x, 0, 6, 13, 16);
        checked(x, 0, 6, (1L << 32) + 2, 16);
        checked(x, 0, 6, 1, 16);
        checked(x, 0, 6, 3, 27);
        checked(x, 1, 6, 2, 27);
        checked(x, 1, 6, 0, 26);
        checked(x, 0, 7, x.planned(0, 7) - 1, 16);
        checked(x, 0, 7, x.planned(0, 7) + 1000, 26);
        checked(x, 1, 7, x.planned(1, 7) + 1000, 0);
        checked(x, 1, 7, (1L << 31) - x.planned(1, 8) - 1, 0);
        checked(x, 1, 7, (1L << 31) - x.planned(1, 8), 26);
        checked(x, 0, 8, x.planned(0, 8) - 1, 16);
        checked(x, 1, 8, x.planned(1, 8) - 1, 26);
        checked(x, 1, 8, x.planned(1, 8) + 1, 0);
        x.clear();
        due("11: no plan", x.check(), -1);
    }

    private static void checkEdges() {
        FilterBench x = same();
        x.plan(47, 2, 0);
        // M may be greater, if the sums go along; here all echoes but the first are 0.
        checked(x, 0, 1, 1000, 12);
        x.forge(0, 1, 1000);
        x.forge(0, 2, ONE + 999 * 2);
        due("11: M 1000", x.check(), 13);
        x.forge(0, 4, x.planned(0, 4) + 2000);
        due("11: with its NORM", x.check(), 14);
        x.forge(0, 5, x.planned(0, 4));
        due("11: with its GAIN", x.check(), 0);
        // NORM at its greatest, with a GAIN for it: no MOST' is good then but of small samples.
        x.forge(0, 4, 1L << 44);
        x.forge(0, 5, 1L << 44);
        due("11: NORM 2^44", x.check(), 16);
        x.forge(0, 5, 1L << 48);
        due("11: GAIN 2^48", x.check(), 16);
        x.plan(47, 7, 0);
        x.forge(0, 5, 1L << 48);
        due("11: MOST' above 2^46", x.check(), 15);
        // MOST T is 2^77 here.
        x.plan(47, 24, 0);
        x.forge(0, 5, 1L << 48);
        due("11: a product beyond 64 bits", x.check(), 15);
    }

    private static void told() {
        FilterBench x = two();
        x.sample(1);
        x.sample(40000);
        int[] want = {15, 32, 16, 1, 12, 1, 32};
        for (int what = 0; what <= 6; what++) due("12: told(" + what + ")", x.told(what), want[what]);
        due("12: told(7)", x.told(7), -1);
        due("12: told(-1)", x.told(-1), -1);
        x.clear();
        for (int what = 0; what <= 6; what++) due("12: no plan", x.told(what), -1);
    }

    private static void sample() {
        FilterBench x = same();
        due("13: no plan", x.sample(0), -1);
        x.plan(16, 2, 0);
        due("13: 2^(K - 1)", x.sample(2), 2 << 13);
        due("13: its negative", x.sample(-2), -(2 << 13));
        due("13: above", x.sample(3), -2);
        due("13: below", x.sample(-3), -2);
        due("13: far", x.sample(Integer.MIN_VALUE), -2);
        due("13: far", x.sample(Integer.MAX_VALUE), -2);
        due("13: not counted", x.told(5), 2);
        x.plan(25, 24, 0);
        due("13: what comes out may be NONE", x.sample(-1), -1);
        due("13: or OUTSIDE", x.sample(-2), -2);
        due("13: counted", x.told(5), 2);
        due("13: 2^23", x.sample(-(1 << 23)), -(1 << 23));
        x = two();
        due("13: sample(-3)", x.sample(-3), -6144);
        due("13: sample(-3)", x.sample(-3), -24576);
        due("13: sample(0)", x.sample(0), -39936);
    }

    /** Over 2^SHIFT and rounded down, below 0 too. */
    private static void shifts() {
        FilterBench x = new FilterBench();
        x.section(16384, 0, 0, -14336, 0);
        due("13: OUT", x.plan(28, 24, 0), 0);
        due("13: SHIFT", x.planned(0, 6), 3);
        due("13: -8 over 8", x.sample(-1), -1);
        due("13: -7 over 8", x.sample(0), -1);
        due("13: y itself", x.kept(0, 2), -7);
        x.forge(0, 6, 0);
        due("13: -7, -6.125 down, over 8", x.sample(0), -1);
        due("13: y itself", x.kept(0, 2), -7);
        x.quiet();
        x.sample(1);
        due("13: 7 over 8", x.sample(0), 0);
    }

    private static void ways() {
        // y = x / 2 of odd numbers shows each way of rounding.
        long[][] want = {{0, 0, -1}, {0, 1, -1}, {1, 1, 0}};
        long[][] left = {{8192, 8192, 8192}, {8192, 0, 8192}, {0, 0, 0}};
        for (int way = 0; way <= 2; way++) {
            FilterBench x = new FilterBench();
            x.section(8192, 0, 0, 0, 0);
            due("13: FINE 0", x.plan(25, 24, way), 0);
            int[] in = {1, 1, -1};
            for (int i = 0; i < 3; i++) {
                due("13: way " + way + ", sample " + i, x.sample(in[i]), want[way][i]);
                due("14: way " + way + ", LEFT " + i, x.kept(0, 4), left[way][i]);
            }
        }
    }

    private static void kept() {
        FilterBench x = two();
        for (int what = 0; what <= 4; what++) due("14: before the first", x.kept(0, what), 0);
        x.sample(7);
        x.sample(-5);
        x.sample(100000);
        long[][] want = {{-5 << 15, 7 << 15, 2 << 15, 7 << 15, 0}, {2 << 13, 7 << 13, 8 << 13, 7 << 12, 0}};
        for (int j = 0; j < 2; j++) {
            for (int what = 0; what <= 4; what++) due("14: kept(" + j + ", " + what + ")", x.kept(j, what), want[j][what]);
        }
        x.forge(0, 0, 1);
        x.forge(1, 0, 0);
        due("14: order as it was made", x.kept(0, 0), -5 << 15);
        due("14: what 5", x.kept(0, 5), 0);
        due("14: what -1", x.kept(0, -1), 0);
        due("14: place 2", x.kept(2, 0), 0);
        due("14: place -1", x.kept(-1, 0), 0);
        x.section(1, 1, 1, 1, 1);
        due("14: no plan", x.kept(0, 0), 0);
    }

    private static void drift() {
        FilterBench x = new FilterBench();
        due("15: no plan", x.drift(), -1);
        // y = x + 7 / 8 of the y before, always down, so that it drifts away.
        x.section(16384, 0, 0, -14336, 0);
        due("15: OUT", x.plan(47, 2, 0), 24);
        due("15: no sample", x.drift(), -1);
        long[] want = {0, 0, 0, 0, 0, 0, 0, 0, 0, 0, 0, 1, 1, 1, 1, 1, 2, 2, 2, 2, 2, 2, 2, 2, 2, 2, 1, 2, 2, 2, 3, 2};
        for (int i = 0; i < 32; i++) {
            x.sample(i == 0 ? 1 : 0);
            due("15: drift " + i, x.drift(), want[i]);
        }
        due("15: outside", x.sample(1 << 24), -2);
        due("15: still the 32nd", x.drift(), 2);
        x.sample(0);
        due("15: the 33rd", x.drift(), -1);
        due("15: nor bits", x.exact(-1), -1);
        x.quiet();
        due("15: quiet", x.drift(), -1);
        // -1 / 16384, down, is -1: nearly a step away.
        x = new FilterBench();
        x.section(1, 0, 0, 0, 0);
        x.plan(25, 24, 0);
        due("15: sample(-1)", x.sample(-1), -1);
        due("15: rounded down", x.drift(), 0);
    }

    private static void exact() {
        FilterBench x = new FilterBench();
        due("16: no plan", x.exact(0), -1);
        x.section(3, 5, 0, 0, 0);
        x.plan(40, 10, 0);
        due("16: no sample", x.exact(0), -1);
        due("16: no sample", x.exact(-1), -1);
        // 3 times -7 over 2^14, and times 2^14: 21 = 10101, below 0.
        x.sample(-7);
        due("16: below 0", x.exact(-1), 1);
        bits(x, 21, 0);
        // Then (3 times 4 less 35) over 2^14, times 2^28.
        x.sample(4);
        due("16: below 0", x.exact(-1), 1);
        bits(x, 23, 14);
        x.sample(0);
        due("16: above 0", x.exact(-1), 0);
        bits(x, 20, 28);
        x.sample(0);
        due("16: 0 is not below 0", x.exact(-1), 0);
        bits(x, 0, 0);
        due("16: i -2", x.exact(-2), -1);
        due("16: i 799", x.exact(799), 0);
        due("16: i 800", x.exact(800), -1);
        due("16: i far", x.exact(Integer.MIN_VALUE), -1);
        due("16: i far", x.exact(Integer.MAX_VALUE), -1);
        sixSections();
    }

    private static void bits(FilterBench x, long value, int shift) {
        for (int i = 0; i < 800; i++) {
            long want = i < shift || i - shift > 62 ? 0 : (value >> (i - shift)) & 1;
            due("16: bit " + i + " of " + value + " times 2^" + shift, x.exact(i), want);
        }
    }

    /** The greatest power: 32 samples and six sections make 14 times 37. */
    private static void sixSections() {
        FilterBench x = new FilterBench();
        for (int i = 0; i < 6; i++) x.section(16384, 0, 0, 0, 0);
        x.plan(47, 24, 1);
        for (int i = 0; i < 31; i++) x.sample(i);
        x.sample(-(1 << 23));
        due("16: below 0", x.exact(-1), 1);
        for (int i = 0; i < 800; i++) due("16: six sections, bit " + i, x.exact(i), i == 14 * 37 + 23 ? 1 : 0);
        due("15: six sections", x.drift(), 0);
    }

    private static void quiet() {
        FilterBench x = two();
        due("17: none yet", x.quiet(), 0);
        long first = x.sample(1234);
        long second = x.sample(-4321);
        x.sample(99999);
        due("17: two", x.quiet(), 2);
        due("17: told(5)", x.told(5), 0);
        for (int j = 0; j < 2; j++) {
            for (int what = 0; what <= 4; what++) due("17: kept(" + j + ", " + what + ")", x.kept(j, what), 0);
        }
        due("17: no bits", x.exact(0), -1);
        due("17: the plan stays", x.check(), 0);
        due("17: the same again", x.sample(1234), first);
        due("17: exact again", x.drift(), 0);
        due("17: and again", x.sample(-4321), second);
        due("17: two", x.quiet(), 2);
        x.clear();
        due("17: no plan", x.quiet(), -1);
    }

    /** An object holds through 512 calls, and beyond 32 samples. */
    private static void longUse() {
        FilterBench x = same();
        x.plan(47, 24, 1);
        for (int i = 0; i < 500; i++) {
            int v = i % 2 == 0 ? 1 << 23 : -(1 << 23) + i;
            due("13: sample " + i, x.sample(v), (long) v << 22);
        }
        due("12: told(5)", x.told(5), 500);
    }
}
