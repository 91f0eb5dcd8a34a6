/** Promises 10 and 11 and "CHECKED": each sentence that names a boundary, on both sides of it. */
public final class CheckBoundaryTests {
    private static final long ONE = 1L << 32;
    private static final int SECTION = 0, M = 1, SUM = 2, REST = 3, NORM = 4, GAIN = 5, SHIFT = 6, MOST = 7, SLIP = 8;

    public static void main(String[] args) {
        forgeTaken();
        forgeRefused();
        forgedAlone();
        noPlan();
        rightAsMade();
        sections();
        valuesOfM();
        sums();
        rests();
        norms();
        gains();
        grownAtMost();
        grownUp();
        beyond64Bits();
        shifts();
        mostAndSlip();
        allShifts();
        placeBefore();
        firstOfAll();
        Due.end();
    }

    /** Two sections that give back what they get: FINE 24, no SHIFTS, MOST 2^33 and what comes of it. */
    private static Bench pair() {
        Bench x = Due.of(16384, 0, 0, 0, 0, 16384, 0, 0, 0, 0);
        x.plan(47, 10, 0);
        return x;
    }

    /** Forges rows of place, what, number, and checks. */
    private static void checked(String call, Bench x, int want, long... forged) {
        for (int i = 0; i + 3 <= forged.length; i += 3) {
            Due.due(call + ", forge", x.forge((int) forged[i], (int) forged[i + 1], forged[i + 2]), 1);
        }
        Due.due(call + ", check()", x.check(), want);
    }

    private static void forgeTaken() {
        Due.says("10: One of these becomes another number (0 .. 2^50): 1");
        for (int j = 0; j <= 1; j++) {
            for (int what = 0; what <= 8; what++) {
                for (long v : new long[] {0, 1, (1L << 50) - 1, 1L << 50}) {
                    Bench x = Due.used();
                    String call = "forge(" + j + ", " + what + ", " + v + ")";
                    Due.due(call, x.forge(j, what, v), 1);
                    Due.due(call + " is there", x.planned(j, what), v);
                }
            }
        }
        Bench x = Due.full();
        Due.due("forge(5, 8, 2^50)", x.forge(5, 8, 1L << 50), 1);
        Due.due("planned(5, 8)", x.planned(5, 8), 1L << 50);
    }

    private static void forgeRefused() {
        Due.says("10: OUTSIDE");
        for (int what = 0; what <= 8; what++) {
            int w = what;
            for (long v : new long[] {-1, (1L << 50) + 1, Long.MIN_VALUE, Long.MAX_VALUE, -(1L << 50), 1L << 63 >>> 1}) {
                Due.leaves("forge(1, " + w + ", " + v + ")", Due::used, x -> x.forge(1, w, v), -2);
            }
        }
        Due.leaves("forge(5, 0, -1)", Due::full, x -> x.forge(5, 0, -1), -2);
        Due.says("10: NONE: no plan, place, what");
        for (int j : new int[] {-1, 2, 6, Integer.MIN_VALUE, Integer.MAX_VALUE}) {
            Due.leaves("forge(" + j + ", 0, 1)", Due::used, x -> x.forge(j, 0, 1), -1);
            Due.leaves("forge(" + j + ", 0, -1)", Due::used, x -> x.forge(j, 0, -1), -1);
        }
        for (int what : new int[] {-1, 9, Integer.MIN_VALUE, Integer.MAX_VALUE}) {
            Due.leaves("forge(0, " + what + ", 1)", Due::used, x -> x.forge(0, what, 1), -1);
            Due.leaves("forge(0, " + what + ", 2^50 + 1)", Due::used, x -> x.forge(0, what, (1L << 50) + 1), -1);
        }
        Due.leaves("forge(6, 0, 1)", Due::full, x -> x.forge(6, 0, 1), -1);
        Due.leaves("forge(0, 0, 1) without a plan", Due::hard, x -> x.forge(0, 0, 1), -1);
        Due.leaves("forge(0, 0, -1) without a plan", Due::hard, x -> x.forge(0, 0, -1), -1);
    }

    private static void forgedAlone() {
        Due.says("10: One of these becomes another number");
        for (int j = 0; j < 6; j++) {
            for (int what = 0; what <= 8; what++) {
                Bench x = Due.full(), twin = Due.full();
                x.forge(j, what, 123456789);
                for (int i = 0; i < 6; i++) {
                    for (int w = 0; w <= 8; w++) {
                        long want = i == j && w == what ? 123456789 : twin.planned(i, w);
                        Due.due("forge(" + j + ", " + what + ", ..), planned(" + i + ", " + w + ")", x.planned(i, w), want);
                    }
                }
                for (int w = 0; w <= 6; w++) Due.due("told(" + w + ")", x.told(w), twin.told(w));
                for (int w = 2; w <= 6; w++) Due.due("about(" + j + ", " + w + ")", x.about(j, w), twin.about(j, w));
            }
        }
        Due.says("10: until a plan is made");
        Bench x = pair();
        x.forge(0, GAIN, 0);
        x.quiet();
        Due.due("quiet() leaves it", x.planned(0, GAIN), 0);
        Due.due("check()", x.check(), 14);
        x.plan(47, 10, 0);
        Due.due("a new plan has its own", x.planned(0, GAIN), 4295032836L);
        Due.due("check()", x.check(), 0);
    }

    private static void noPlan() {
        Due.says("11: NONE: no plan");
        Due.leaves("without a section", Due::empty, x -> x.check(), -1);
        Due.leaves("with a HARD one", Due::hard, x -> x.check(), -1);
        Due.leaves("sections alone", Due::same, x -> x.check(), -1);
    }

    private static void rightAsMade() {
        Due.says("11: 0 right");
        Due.leaves("of two", Due::two, x -> x.check(), 0);
        Due.leaves("of six", Due::full, x -> x.check(), 0);
        Due.leaves("wrong at the second", Due::used, x -> x.check(), 24);
    }

    private static void sections() {
        Due.says("CHECKED: 1 the section is one that is there, and at no place before");
        checked("the last one twice", pair(), 21, 0, SECTION, 1);
        checked("the first one twice", pair(), 21, 1, SECTION, 0);
        checked("changed places", pair(), 0, 0, SECTION, 1, 1, SECTION, 0);
        checked("one more than there are", pair(), 11, 0, SECTION, 2);
        checked("one more than there are", pair(), 21, 1, SECTION, 2);
        checked("far", pair(), 11, 0, SECTION, 1L << 50);
        checked("1 by 32 bits", pair(), 11, 0, SECTION, ONE + 1);
        checked("0 by 32 bits", pair(), 21, 1, SECTION, ONE);
        Bench x = new Bench();
        for (int i = 0; i < 6; i++) x.section(16384, 0, 0, 0, 0);
        x.plan(47, 10, 0);
        checked("the same as the first, at the last", x, 61, 5, SECTION, 0);
        checked("the same as the one before", x, 61, 5, SECTION, 4);
        checked("the sixth, at all places but the last", x, 21, 0, SECTION, 5, 1, SECTION, 5);
        checked("turned round", x, 0, 0, SECTION, 5, 1, SECTION, 4, 2, SECTION, 3, 3, SECTION, 2, 4, SECTION, 1, 5, SECTION, 0);
        checked("a seventh", x, 61, 5, SECTION, 6);
        // Another section's numbers are not its own: GAIN is too small for the first one.
        checked("another section", Due.two(), 14, 0, SECTION, 1, 1, SECTION, 0);
    }

    private static void valuesOfM() {
        Due.says("CHECKED: 2 M is 2 .. 1000");
        checked("0", pair(), 12, 0, M, 0);
        checked("1", pair(), 12, 0, M, 1);
        checked("2", pair(), 0, 0, M, 2);
        checked("3, but SUM(3) is 2 more", pair(), 12, 0, M, 3);
        // All r are 2 from r(1) on; NORM and GAIN have to go along.
        long norm = 4295034836L;
        checked("1000", pair(), 0, 0, M, 1000, 0, SUM, ONE + 1998, 0, NORM, norm, 0, GAIN, norm);
        checked("1000, SUM one less", pair(), 12, 0, M, 1000, 0, SUM, ONE + 1997, 0, NORM, norm, 0, GAIN, norm);
        checked("1001", pair(), 12, 0, M, 1001, 0, SUM, ONE + 5000, 0, NORM, 2 * norm, 0, GAIN, 2 * norm);
        checked("far", pair(), 22, 1, M, 1L << 50);
        checked("2 by 32 bits", pair(), 22, 1, M, ONE + 2);
    }

    private static void sums() {
        Due.says("CHECKED: 2 SUM at least SUM(M), and at most 2^46");
        checked("just SUM(M)", pair(), 0, 0, SUM, ONE + 2);
        checked("one less", pair(), 12, 0, SUM, ONE + 1);
        checked("0", pair(), 22, 1, SUM, 0);
        // So much that NORM can't be right then: that is 3.
        checked("2^46", pair(), 13, 0, SUM, 1L << 46);
        checked("one more", pair(), 12, 0, SUM, (1L << 46) + 1);
        checked("2^48, 2^64 by 65536", pair(), 12, 0, SUM, 1L << 48);
        checked("2^50", pair(), 12, 0, SUM, 1L << 50);
    }

    private static void rests() {
        Due.says("CHECKED: 2 REST at least REST(M), and at most ONE / 2");
        checked("just REST(M)", pair(), 0, 0, REST, 2);
        checked("one less", pair(), 12, 0, REST, 1);
        checked("0", pair(), 12, 0, REST, 0);
        long norm = 2 * (ONE + 2);
        long[] half = {0, REST, ONE / 2, 0, NORM, norm, 0, GAIN, norm};
        // T is 131073: MOST' is 2^34 and 2^17, SLIP' is 3.
        checked("ONE / 2", pair(), 16, half);
        Bench x = pair();
        checked("ONE / 2", x, 16, half);
        checked("with its MOST and SLIP", x, 26, 0, MOST, (1L << 34) + (1L << 17), 0, SLIP, 3);
        checked("one more", x, 12, 0, REST, ONE / 2 + 1);
        checked("ONE", pair(), 12, 0, REST, ONE);
        checked("above ONE", pair(), 12, 0, REST, 1L << 50);
        // As it was made.
        x = Due.of(1, 0, 0, -14881, 3405);
        x.plan(40, 10, 0);
        checked("made so", x, 0, 0, REST, ONE / 2);
    }

    private static void norms() {
        Due.says("CHECKED: 3 NORM times D (of this REST) at least SUM times 65536");
        // D is 65535: both are 65535 times 65536 times 65538.
        long norm = 65536L * 65538;
        Bench x = pair();
        checked("just it", x, 0, 0, SUM, 65535L * 65538, 0, NORM, norm, 0, GAIN, norm);
        checked("NORM one less", x, 13, 0, NORM, norm - 1);
        checked("SUM one more", x, 13, 0, NORM, norm, 0, SUM, 65535L * 65538 + 1);
        checked("as made, one less", pair(), 13, 0, NORM, 4295032835L);
        checked("0", pair(), 23, 1, NORM, 0);
        // D falls at 1 more than each 65536 of REST: 65534 is not enough of it then.
        checked("D the same", pair(), 0, 0, REST, 65536);
        checked("D one less", pair(), 13, 0, REST, 65537);
        Due.says("CHECKED: 3 NORM at most 2^44");
        checked("2^44", pair(), 16, 0, NORM, 1L << 44, 0, GAIN, 1L << 44);
        checked("one more", pair(), 13, 0, NORM, (1L << 44) + 1, 0, GAIN, (1L << 44) + 1);
        checked("2^48, 2^64 by D", pair(), 13, 0, NORM, 1L << 48);
        checked("2^50", pair(), 13, 0, NORM, 1L << 50);
    }

    private static void gains() {
        Due.says("CHECKED: 4 GAIN times 16384 at least the sizes of b0, b1, b2 times NORM");
        checked("just it", pair(), 0, 0, GAIN, 4295032836L);
        checked("one less", pair(), 14, 0, GAIN, 4295032835L);
        checked("0", pair(), 24, 1, GAIN, 0);
        Bench x = Due.of(-1, 2, -3, 0, 0);
        x.plan(40, 10, 0);
        long gain = (6 * 4295032836L + 16383) / 16384;
        checked("just it, with a rest", x, 0, 0, GAIN, gain);
        checked("one less, with a rest", x, 14, 0, GAIN, gain - 1);
        x = Due.of(0, 0, 0, 0, 0);
        x.plan(40, 10, 0);
        checked("0 of 0", x, 0, 0, GAIN, 0);
        Due.says("CHECKED: 4 GAIN at most 2^48");
        x = Due.same();
        x.plan(47, 2, 0);
        checked("2^48", x, 16, 0, GAIN, 1L << 48);
        // MOST is 2^25: 2^41 comes of it by T 2^32.
        checked("2^48, with its MOST", x, 0, 0, MOST, 1L << 41);
        checked("one more", x, 14, 0, GAIN, (1L << 48) + 1);
        checked("2^50, 2^64 by 16384", x, 14, 0, GAIN, 1L << 50);
    }

    private static void grownAtMost() {
        Due.says("CHECKED: 5 MOST' and SLIP' are GOOD: together at most 2^46");
        // T is 65538; of MOST 70366596759545 and SLIP 2 come 2^46 - 5 and 5.
        Bench x = pair();
        x.forge(1, SHIFT, 1);
        x.forge(1, MOST, 1L << 45);
        x.forge(1, SLIP, 4);
        checked("2^46: only FINE less all SHIFTS is not OUT", x, 27, 0, MOST, 70366596759545L);
        checked("MOST one more", x, 25, 0, MOST, 70366596759546L);
        checked("SLIP one more", x, 25, 0, MOST, 70366596759545L, 0, SLIP, 3);
        checked("SLIP one more, MOST one less", x, 27, 0, MOST, 70366596759544L);
        Due.says("CHECKED: 5 with this NORM: NORM / ONE, rounded up");
        x = pair();
        checked("SLIP' one more", x, 16, 0, NORM, 2 * ONE + 1, 0, GAIN, 2 * ONE + 1);
        checked("SLIP' one more, with its MOST and SLIP", x, 26, 0, MOST, (1L << 34) + (1L << 17), 0, SLIP, 3);
    }

    private static void grownUp() {
        Due.says("CHECKED: 5 T = GAIN / 65536, rounded up, and MOST' is MOST T / 65536, rounded up");
        // A section of 0s has any GAIN: MOST' is MOST / 65536 by T 1, and so on.
        Bench x = Due.of(0, 0, 0, 0, 0);
        x.plan(47, 10, 0);
        checked("GAIN 0", x, 0, 0, GAIN, 0, 0, MOST, 0);
        long[][] gainAndMost = {{1, 1 << 17}, {65536, 1 << 17}, {65537, 1 << 18}, {131072, 1 << 18}, {131073, 3 << 17}};
        for (long[] g : gainAndMost) {
            checked("GAIN " + g[0] + ", MOST just it", x, 0, 0, GAIN, g[0], 0, MOST, g[1]);
            checked("GAIN " + g[0] + ", MOST one less", x, 16, 0, MOST, g[1] - 1);
        }
        x = Due.of(0, 0, 0, 0, 0, 0, 0, 0, 0, 0);
        x.plan(47, 10, 0);
        // What comes of the place before, by T 1: up from 65536 times a number on.
        long[][] before = {{0, 0}, {1, 1}, {65535, 1}, {65536, 1}, {65537, 2}, {131072, 2}, {131073, 3}};
        for (long[] b : before) {
            x.forge(1, GAIN, 1);
            x.forge(1, MOST, 1 << 20);
            x.forge(1, SLIP, 1 << 20);
            checked("MOST " + b[0] + ", just it", x, 0, 0, MOST, b[0], 0, SLIP, 2, 1, MOST, b[1]);
            if (b[1] > 0) checked("MOST " + b[0] + ", one less", x, 26, 1, MOST, b[1] - 1);
            long slip = Math.max(2, b[0]);
            checked("SLIP " + slip + ", just it", x, 0, 0, SLIP, slip, 1, MOST, b[1], 1, SLIP, Math.max(1, b[1]) + 2);
            checked("SLIP " + slip + ", one less", x, 26, 1, SLIP, Math.max(1, b[1]) + 1);
        }
    }

    private static void beyond64Bits() {
        Due.says("CHECKED: Quotients and products that are too great for 64 bits each are as they are");
        // 2^45 times 2^32; then all of MOST's 46 bits times 2^32; then SLIP's.
        Bench x = Due.same();
        x.plan(47, 24, 0);
        checked("MOST T 2^77", x, 15, 0, GAIN, 1L << 48);
        x = pair();
        checked("MOST T 2^78", x, 25, 0, MOST, (1L << 46) - 3, 1, GAIN, 1L << 48);
        x = pair();
        checked("SLIP T 2^77", x, 25, 0, SLIP, 1L << 45, 1, GAIN, 1L << 48);
        // By NEAREST SLIP' is 1, and MOST' not less for it.
        for (int way = 0; way <= 2; way++) {
            x = Due.same();
            x.plan(47, 24, way);
            checked("MOST T 2^77 by WAY " + way, x, 15, 0, GAIN, 1L << 48);
            // MOST is 2^30: MOST T is 2^62, and then 2^30 less, which is good.
            x.plan(47, 7, way);
            checked("MOST T 2^62", x, 15, 0, GAIN, 1L << 48);
            checked("MOST T 2^30 below", x, 16, 0, GAIN, (1L << 48) - 65536);
            checked("with its MOST", x, 0, 0, MOST, (1L << 46) - (1L << 14));
        }
        // 2^32 times 2^32 is 0 in 64 bits, 2^31 times 2^32 below 0.
        for (int bits = 28; bits <= 45; bits++) {
            x = Due.of(16384, 0, 0, 0, 0, 0, 0, 0, 0, 0);
            x.plan(47, 2, 0);
            int good = bits <= 29 ? 26 : 25;
            checked("SLIP 2^" + bits + " by 2^32", x, good, 0, SLIP, 1L << bits, 1, GAIN, 1L << 48);
            x.plan(47, 2, 0);
            checked("MOST 2^" + bits + " by 2^32", x, good, 0, MOST, 1L << bits, 1, GAIN, 1L << 48);
        }
    }

    private static void shifts() {
        Due.says("CHECKED: 6 SHIFT is 0 .. 12");
        Bench x = Due.same();
        x.plan(47, 10, 0);
        checked("0", x, 0, 0, SHIFT, 0);
        checked("1", x, 17, 0, SHIFT, 1);
        checked("12", x, 17, 0, SHIFT, 12);
        checked("13", x, 16, 0, SHIFT, 13);
        checked("64", x, 16, 0, SHIFT, 64);
        checked("0 by 32 bits", x, 16, 0, SHIFT, ONE);
        checked("far", x, 16, 0, SHIFT, 1L << 50);
        // Made with 12.
        x = Due.of(32767, 32767, 0, -31795, 15426);
        x.plan(28, 3, 0);
        checked("12, made so", x, 0, 0, SHIFT, 12);
        checked("11", x, 16, 0, SHIFT, 11);
        checked("13", x, 16, 0, SHIFT, 13);
    }

    private static void mostAndSlip() {
        Due.says("CHECKED: 6 MOST and SLIP at least what it makes of them");
        Bench x = pair();
        long most = x.planned(1, MOST);
        checked("MOST one less", x, 26, 1, MOST, most - 1);
        checked("MOST just it", x, 0, 1, MOST, most);
        checked("SLIP one less", x, 26, 1, SLIP, 4);
        checked("SLIP just it", x, 0, 1, SLIP, 5);
        // By a SHIFT that is not 0 SLIP is 1 more: 5 / 2^4, up, and 1.
        checked("SLIP 1 by SHIFT 4", x, 26, 1, SHIFT, 4, 1, SLIP, 1);
        checked("SLIP 2 by SHIFT 4", x, 27, 1, SLIP, 2);
        checked("MOST one less by SHIFT 4", x, 26, 1, MOST, ((most + 15) >> 4) - 1);
        checked("MOST just it by SHIFT 4", x, 27, 1, MOST, (most + 15) >> 4);
        Due.says("CHECKED: 6 both together below 2^(W - 1)");
        for (int w : new int[] {16, 32, 47}) {
            x = Due.of(16384, 0, 0, 0, 0, 16384, 0, 0, 0, 0);
            x.plan(w, 2, 0);
            long top = 1L << (w - 1);
            long slip = x.planned(1, SLIP);
            checked("W " + w + ", MOST one below", x, 0, 1, MOST, top - slip - 1);
            checked("W " + w + ", MOST just it", x, 26, 1, MOST, top - slip);
            x.plan(w, 2, 0);
            most = x.planned(1, MOST);
            checked("W " + w + ", SLIP one below", x, 0, 1, SLIP, top - most - 1);
            checked("W " + w + ", SLIP just it", x, 26, 1, SLIP, top - most);
            checked("W " + w + ", both at their greatest", x, 26, 1, MOST, 1L << 50, 1, SLIP, 1L << 50);
        }
    }

    private static void allShifts() {
        Due.says("CHECKED: 7 (at the last place) FINE less all SHIFTS is OUT");
        checked("SHIFT one more at the first", Due.two(), 27, 0, SHIFT, 3);
        checked("SHIFT one more at the last", Due.two(), 27, 1, SHIFT, 2);
        // One more at the first makes half of MOST enough, and one less at the last with a SLIP for it.
        checked("one more and one less", Due.two(), 0, 0, SHIFT, 3, 0, MOST, 671102976, 1, SHIFT, 0, 1, SLIP, 9);
        checked("the same, SLIP one less", Due.two(), 26, 0, SHIFT, 3, 0, MOST, 671102976, 1, SHIFT, 0, 1, SLIP, 8);
        checked("one less at the first is not enough there", Due.two(), 16, 0, SHIFT, 1, 1, SHIFT, 2);
        Bench x = new Bench();
        for (int i = 0; i < 6; i++) x.section(16384, 0, 0, 0, 0);
        x.plan(47, 10, 0);
        for (int j = 0; j < 6; j++) {
            checked("SHIFT 12 at " + j, x, 67, j, SHIFT, 12);
            x.forge(j, SHIFT, 0);
        }
        Due.due("all put back", x.check(), 0);
    }

    private static void placeBefore() {
        Due.says("CHECKED: 5 with the MOST, SLIP of the place before (of the plan; at first 2^(K - 1 + FINE) and 0)");
        Bench x = pair();
        long most = x.planned(0, MOST);
        checked("MOST of the last is of no place before", x, 0, 1, MOST, 1L << 40);
        checked("MOST one more at the first", pair(), 26, 0, MOST, most + 1);
        checked("SLIP one more at the first", pair(), 26, 0, SLIP, 3);
        x = pair();
        long next = ((most + 1) * 65538 + 65535) / 65536;
        checked("and what comes of it", x, 0, 0, MOST, most + 1, 1, MOST, next);
        checked("one less", x, 26, 1, MOST, next - 1);
        x = pair();
        checked("SLIP 3 makes 4 and 2", x, 26, 0, SLIP, 3);
        checked("SLIP 3 makes 4 and 2", x, 0, 1, SLIP, 6);
    }

    private static void firstOfAll() {
        Due.says("CHECKED: for each place j (the first that is not is told, and the first of these); 11: 10 (j + 1) and which");
        Bench x = new Bench();
        for (int i = 0; i < 6; i++) x.section(16384, 0, 0, 0, 0);
        x.plan(47, 10, 0);
        // From the last place to the first, and at each from the last condition to the first.
        checked("SHIFTS", x, 67, 5, SHIFT, 1);
        for (int j = 5; j >= 0; j--) {
            int at = 10 * (j + 1);
            checked("SLIP", x, at + 6, j, SLIP, 0);
            checked("GOOD", x, at + 5, j, GAIN, 1L << 48);
            checked("GAIN", x, at + 4, j, GAIN, 0);
            checked("NORM", x, at + 3, j, NORM, 0);
            checked("REST", x, at + 2, j, REST, 0);
            checked("SECTION", x, at + 1, j, SECTION, 6);
        }
        // At a place before the last, all SHIFTS are not looked at.
        x.plan(47, 10, 0);
        checked("SHIFT at the first", x, 67, 0, SHIFT, 2);
        checked("SHIFT at the first, SLIP at the last", x, 66, 5, SLIP, 0);
    }
}
