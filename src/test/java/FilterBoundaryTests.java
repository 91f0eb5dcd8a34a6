/** Promises 13 to 17 and "4 THE FILTER": each sentence that names a boundary, on both sides of it. */
public final class FilterBoundaryTests {
    private static final int[] FAR = {Integer.MIN_VALUE, Integer.MIN_VALUE + 1, Integer.MAX_VALUE};

    public static void main(String[] args) {
        samplesTaken();
        samplesRefused();
        answersLikeRefusals();
        allZeroAtFirst();
        asItWasMade();
        roundedDown();
        waysOfRounding();
        greatestWords();
        keptOnes();
        keptRefused();
        driftOf32();
        driftRefused();
        driftRoundedDown();
        greatDrift();
        bitsOfSize();
        belowZero();
        greatestPower();
        exactRefused();
        quietOnes();
        Due.end();
    }

    private static void samplesTaken() {
        Due.says("13: OUTSIDE: it is above 2^(K - 1) in size");
        for (int k = 2; k <= 24; k++) {
            int most = 1 << (k - 1);
            Bench x = Due.same();
            int out = x.plan(47, k, 0);
            Due.due("K " + k + ", 2^(K - 1)", x.sample(most), (long) most << out);
            Due.due("K " + k + ", its negative", x.sample(-most), -((long) most << out));
            Due.due("K " + k + ", above", x.sample(most + 1), -2);
            Due.due("K " + k + ", below", x.sample(-most - 1), -2);
            Due.due("K " + k + ", told(5)", x.told(5), 2);
        }
    }

    private static void samplesRefused() {
        Due.says("13: OUTSIDE: it is above 2^(K - 1) in size; and all stays");
        Due.leaves("sample(32769)", Due::used, x -> x.sample(32769), -2);
        Due.leaves("sample(-32769)", Due::used, x -> x.sample(-32769), -2);
        Due.leaves("sample(2049)", Due::full, x -> x.sample(2049), -2);
        for (int far : FAR) Due.leaves("sample(" + far + ")", Due::used, x -> x.sample(far), -2);
        Due.leaves("sample(32769) before the first", Due::two, x -> x.sample(32769), -2);
        Due.says("13: NONE: no plan");
        Due.leaves("sample(0) of none", Due::empty, x -> x.sample(0), -1);
        Due.leaves("sample(1) without a plan", Due::same, x -> x.sample(1), -1);
        Due.leaves("sample(1) with a HARD one", Due::hard, x -> x.sample(1), -1);
        for (int far : FAR) Due.leaves("sample(" + far + ") without a plan", Due::same, x -> x.sample(far), -1);
    }

    private static void answersLikeRefusals() {
        Due.says("13: What comes out may be one of these, too: told(5) grows by one then");
        Bench x = Due.same();
        x.plan(25, 24, 0);
        for (int v = -1; v >= -3; v--) {
            Due.due("sample(" + v + ")", x.sample(v), v);
            Due.due("told(5)", x.told(5), -v);
            Due.due("kept(0, 0)", x.kept(0, 0), v);
        }
        Due.due("sample(2^23 + 1)", x.sample((1 << 23) + 1), -2);
        Due.due("told(5)", x.told(5), 3);
        Due.due("kept(0, 0)", x.kept(0, 0), -3);
    }

    private static void allZeroAtFirst() {
        Due.says("1 SECTIONS and 4 THE FILTER: all 0 at first");
        Bench x = Due.of(16384, -8192, 4096, -8192, 4096);
        Due.due("plan(47, 10, 0)", x.plan(47, 10, 0), 24);
        for (int what = 0; what <= 4; what++) Due.due("kept(0, " + what + ")", x.kept(0, what), 0);
        long u = 1L << 24;
        for (int round = 0; round < 3; round++) {
            Due.due("b0 x", x.sample(64), 64 * u);
            Due.due("b1 x1 - a1 y1", x.sample(0), 0);
            Due.due("b2 x2 - a2 y2", x.sample(0), 0);
            Due.due("no more of x", x.sample(0), 0);
            if (round == 0) x.quiet();
            else x.plan(47, 10, 0);
        }
        x = Due.of(0, 8192, 4096, 0, -4096);
        x.plan(47, 10, 0);
        long[] want = {0, 32, 16, 8, 4, 2, 1};
        for (int i = 0; i < want.length; i++) Due.due("sample " + i, x.sample(i == 0 ? 64 : 0), want[i] * u);
    }

    private static void asItWasMade() {
        Due.says("4 THE FILTER: all as it was made, not as it was forged");
        for (int what = 0; what <= 8; what++) {
            for (long v : new long[] {0, 1, 12, 1L << 50}) {
                Bench x = Due.two(), twin = Due.two();
                x.forge(0, what, v);
                x.forge(1, what, v);
                for (int in : new int[] {32768, -12345, 0, 7}) {
                    String call = "sample(" + in + ") with " + v + " as number " + what;
                    Due.due(call, x.sample(in), twin.sample(in));
                    Due.due(call + ", drift()", x.drift(), twin.drift());
                    for (int i = -1; i < 60; i++) Due.due(call + ", exact(" + i + ")", x.exact(i), twin.exact(i));
                    for (int i = 0; i <= 4; i++) Due.due(call + ", kept(1, " + i + ")", x.kept(1, i), twin.kept(1, i));
                }
                Due.due("OUT", x.told(4), 12);
            }
        }
    }

    private static void roundedDown() {
        Due.says("4 THE FILTER: over 2^SHIFT and rounded down");
        // SHIFT is 3; y goes by 7 / 8, down.
        Bench x = Due.of(16384, 0, 0, -14336, 0);
        Due.due("plan(28, 24, 0)", x.plan(28, 24, 0), 0);
        Due.due("SHIFT", x.planned(0, 6), 3);
        int[] y = {-8, -7, -7, -7};
        for (int i = 0; i < y.length; i++) {
            Due.due("out " + i, x.sample(i == 0 ? -1 : 0), -1);
            Due.due("y " + i, x.kept(0, 2), y[i]);
        }
        x.quiet();
        int[] up = {8, 7, 6, 5, 4, 3, 2, 1, 0};
        for (int i = 0; i < up.length; i++) {
            Due.due("out " + i, x.sample(i == 0 ? 1 : 0), i == 0 ? 1 : 0);
            Due.due("y " + i, x.kept(0, 2), up[i]);
        }
        Due.says("4 THE FILTER: what comes of each section, over 2^SHIFT, into the next one");
        x = Due.two();
        x.sample(-3);
        Due.due("y of the first", x.kept(0, 2), -3 << 15);
        Due.due("x of the second, SHIFT 2", x.kept(1, 0), -3 << 13);
        Due.due("y of the second", x.kept(1, 2), -3 << 12);
        Due.due("out, SHIFT 1", x.sample(0), -((3 << 12) + (3 << 13)) / 2);
    }

    private static void waysOfRounding() {
        Due.says("4 THE FILTER: by CARRIED and LEFT; by NEAREST and 8192; y = A / 16384, rounded down; LEFT is A less 16384 y");
        // A is x times 8192: halves, on both sides of 0.
        int[] in = {1, 1, -1, -1, 3, -3, 0, 0};
        long[][] y = {{0, 0, -1, -1, 1, -2, 0, 0}, {0, 1, -1, 0, 1, -1, 0, 0}, {1, 1, 0, 0, 2, -1, 0, 0}};
        long[][] left = {{8192, 8192, 8192, 8192, 8192, 8192, 0, 0}, {8192, 0, 8192, 0, 8192, 0, 0, 0},
            {0, 0, 0, 0, 0, 0, 8192, 8192}};
        waysOf(8192, in, y, left);
        // A is just below and above halves and wholes: 8191, 8193, 16383, 16384 over 16384.
        int[] unit = {1, -1};
        waysOf(8191, unit, new long[][] {{0, -1}, {0, 0}, {0, 0}}, new long[][] {{8191, 8193}, {8191, 0}, {16383, 1}});
        waysOf(8193, unit, new long[][] {{0, -1}, {0, 0}, {1, -1}}, new long[][] {{8193, 8191}, {8193, 0}, {1, 16383}});
        waysOf(16383, unit, new long[][] {{0, -1}, {0, 0}, {1, -1}}, new long[][] {{16383, 1}, {16383, 0}, {8191, 8193}});
        waysOf(16384, unit, new long[][] {{1, -1}, {1, -1}, {1, -1}}, new long[][] {{0, 0}, {0, 0}, {8192, 8192}});
    }

    private static void waysOf(int b0, int[] in, long[][] y, long[][] left) {
        for (int way = 0; way <= 2; way++) {
            Bench x = Due.of(b0, 0, 0, 0, 0);
            x.plan(25, 24, way);
            Due.due("FINE", x.told(0), 0);
            for (int i = 0; i < in.length; i++) {
                String call = "b0 " + b0 + ", WAY " + way + ", sample " + i;
                Due.due(call, x.sample(in[i]), y[way][i]);
                Due.due(call + ", LEFT", x.kept(0, 4), left[way][i]);
            }
        }
    }

    private static void greatestWords() {
        Due.says("4 THE FILTER: in words in which nothing overflows");
        // The greatest samples, all of one sign, come to 8 times 2 (less a little) of theirs.
        for (int sign = -1; sign <= 1; sign += 2) {
            Bench x = Due.of(32767, 0, 0, -14336, 0);
            Due.due("a plan", x.plan(47, 24, 1) >= 0 ? 1 : 0, 1);
            long slip = x.planned(0, 8), most = x.planned(0, 7) + slip;
            int before = x.told(0) - x.told(4);
            for (int i = 0; i < 400; i++) {
                Due.due("in a word " + i, Math.abs(x.sample(sign << 23)) <= most ? 1 : 0, 1);
            }
            long end = sign * (32767L << (23 + x.told(0))) / 2048;
            Due.due("to the end of all", Math.abs(x.kept(0, 2) - end) <= slip << before ? 1 : 0, 1);
        }
    }

    private static void keptOnes() {
        Due.says("14: 0, 1 x of the latest sample and the one before, 2, 3 y of these, 4 LEFT");
        Bench x = Due.of(8191, 0, 0, 0, 0);
        x.plan(25, 24, 0);
        long[][] want = {{0, 0, 0, 0, 0}, {5, 0, 2, 0, 5 * 8191 - 2 * 16384}, {-7, 5, -4, 2, -7 * 8191 + 4 * 16384},
            {0, -7, 0, -4, 0}, {0, 0, 0, 0, 0}};
        int[] in = {5, -7, 0, 0};
        for (int i = 0; i < want.length; i++) {
            for (int what = 0; what <= 4; what++) Due.due("after " + i + ", kept(0, " + what + ")", x.kept(0, what), want[i][what]);
            if (i < in.length) x.sample(in[i]);
        }
        Due.says("14: its order as it was made");
        x = Due.of(1000, 0, 0, 0, 0, 32767, 32767, 32767, 0, 0);
        x.plan(40, 4, 0);
        Due.due("the order is 1 0", x.planned(0, 0), 1);
        x.sample(1);
        x.forge(0, 0, 0);
        x.forge(1, 0, 1);
        Due.due("y of section 1", x.kept(0, 2), 33553408);
        Due.due("x of section 0", x.kept(1, 0), 33553408);
        Due.due("y of section 0", x.kept(1, 2), 2047937);
    }

    private static void keptRefused() {
        Due.says("14: 0: no plan, place, what");
        for (int what = 0; what <= 4; what++) {
            int w = what;
            for (int j : new int[] {-1, 2, 6, Integer.MIN_VALUE, Integer.MAX_VALUE}) {
                Due.leaves("kept(" + j + ", " + w + ")", Due::used, x -> x.kept(j, w), 0);
            }
            Due.leaves("kept(6, " + w + ")", Due::full, x -> x.kept(6, w), 0);
            Due.leaves("kept(0, " + w + ") without a plan", Due::same, x -> x.kept(0, w), 0);
        }
        for (int what : new int[] {-1, 5, Integer.MIN_VALUE, Integer.MAX_VALUE}) {
            Due.leaves("kept(0, " + what + ")", Due::used, x -> x.kept(0, what), 0);
        }
        Due.says("14: 0: no plan, after there was one");
        Bench x = Due.used();
        x.section(1, 1, 1, 1, 1);
        for (int what = 0; what <= 4; what++) Due.due("kept(0, " + what + ")", x.kept(0, what), 0);
        x = Due.used();
        x.plan(24, 24, 0);
        for (int what = 0; what <= 4; what++) Due.due("kept(1, " + what + ")", x.kept(1, what), 0);
        x = Due.full();
        Due.due("kept(5, 0)", x.kept(5, 0) != 0 ? 1 : 0, 1);
    }

    private static void driftOf32() {
        Due.says("4 THE FILTER: THE EXACT FILTER goes along with the first 32 samples; 15: NONE: more than 32");
        long[] want = {0, 0, 0, 0, 0, 0, 0, 0, 0, 0, 0, 1, 1, 1, 1, 1, 2, 2, 2, 2, 2, 2, 2, 2, 2, 2, 1, 2, 2, 2, 3, 2};
        Bench x = Due.of(16384, 0, 0, -14336, 0);
        for (int round = 0; round < 3; round++) {
            if (round != 1) x.plan(47, 2, 0);
            Due.due("OUT", x.told(4), 24);
            for (int i = 0; i < 32; i++) {
                x.sample(i == 0 ? 1 : 0);
                Due.due("drift " + i, x.drift(), want[i]);
                Due.due("sign " + i, x.exact(-1), 0);
            }
            // A refused sample is none.
            Due.due("sample(3)", x.sample(3), -2);
            Due.due("the 32nd", x.drift(), 2);
            x.sample(0);
            Due.due("the 33rd, drift()", x.drift(), -1);
            Due.due("the 33rd, exact(-1)", x.exact(-1), -1);
            Due.due("the 33rd, exact(0)", x.exact(0), -1);
            x.sample(0);
            Due.due("the 34th, drift()", x.drift(), -1);
            Due.due("quiet()", x.quiet(), 34);
        }
    }

    private static void driftRefused() {
        Due.says("15: NONE: no plan, no sample, more than 32");
        Due.leaves("of none", Due::empty, x -> x.drift(), -1);
        Due.leaves("no plan", Due::same, x -> x.drift(), -1);
        Due.leaves("a HARD one", Due::hard, x -> x.drift(), -1);
        Due.leaves("no sample", Due::two, x -> x.drift(), -1);
        Due.leaves("three samples", Due::used, x -> x.drift() >= 0 ? 1 : 0, 1);
        Bench x = Due.two();
        x.sample(40000);
        Due.due("only a refused one", x.drift(), -1);
        x.sample(1);
        Due.due("one", x.drift(), 0);
        x.quiet();
        Due.due("quiet", x.drift(), -1);
        x.sample(1);
        x.plan(15, 16, 1);
        Due.due("a refused plan", x.drift(), 0);
        x.plan(32, 16, 1);
        Due.due("a new plan", x.drift(), -1);
        x.sample(1);
        x.section(1, 1, 1, 1, 1);
        Due.due("no plan any more", x.drift(), -1);
    }

    private static void driftRoundedDown() {
        Due.says("4 THE FILTER: the size of the difference between what came out and that, rounded down");
        // What comes out is -1, the exact filter's -1 / 16384: nearly 1 between them.
        Bench x = Due.of(1, 0, 0, 0, 0);
        x.plan(25, 24, 0);
        Due.due("sample(-1)", x.sample(-1), -1);
        Due.due("below 1", x.drift(), 0);
        Due.due("sample(16383)", x.sample(16383), 0);
        Due.due("below 1 on the other side", x.drift(), 0);
        // 1 for 1.5, then 2 for 3: just 1 between them.
        x = Due.of(12288, 0, 0, -8192, 0);
        Due.due("plan(25, 24, 0)", x.plan(25, 24, 0), 0);
        Due.due("sample(2)", x.sample(2), 1);
        Due.due("a half", x.drift(), 0);
        Due.due("sample(3)", x.sample(3), 2);
        Due.due("just 1", x.drift(), 1);
        x.quiet();
        Due.due("sample(-2)", x.sample(-2), -2);
        Due.due("a half", x.drift(), 0);
        Due.due("sample(-1)", x.sample(-1), -2);
        Due.due("a half and 1 / 4", x.drift(), 0);
        // Upward by a half each time, of which 3 / 4 stay: 0.5, 0.875, 1.15625, .. below 2.
        x = Due.of(4096, 0, 0, -12288, 0);
        Due.due("plan(25, 24, 2)", x.plan(25, 24, 2), 0);
        int[] in = {2, 3, 0, 0, 0, 0, 0, 0, 0};
        int[] out = {1, 2, 2, 2, 2, 2, 2, 2, 2};
        int[] drift = {0, 0, 1, 1, 1, 1, 1, 1, 1};
        for (int i = 0; i < in.length; i++) {
            Due.due("sample(" + in[i] + ")", x.sample(in[i]), out[i]);
            Due.due("drift " + i, x.drift(), drift[i]);
        }
    }

    private static void greatDrift() {
        Due.says("15: The DRIFT of the latest sample, below SLIP of the last place");
        // Six sections with great gains make much of what the first one rounds.
        int[] in = {-1, -2, -2, -2, -2, -2, -2, -2, -2, -2, -2, -2, -2, -2, -2, -2, -2, -2, -2, -2, -2, -2, -2, -2, -2, -2, -2, -2,
            -2, -2, -2, -2};
        Model model = new Model();
        Bench x = new Bench();
        for (int i = 0; i < 6; i++) {
            model.section(30803, 30803, 30803, -23614, 8508);
            x.section(30803, 30803, 30803, -23614, 8508);
        }
        Due.due("plan(47, 2, 0)", x.plan(47, 2, 0), model.plan(47, 2, 0));
        for (int i = 0; i < in.length; i++) {
            Due.due("sample " + i, x.sample(in[i]), model.sample(in[i]));
            Due.due("drift " + i, x.drift(), model.drift());
        }
        Due.due("drift 31", x.drift(), 5894116826L);
        Due.due("SLIP", x.planned(5, 8), 5638755797235L);
    }

    /** Value times 2^shift, all 800 bits of it, on benches of few calls each. */
    private static void bits(String call, int[] section, int[] in, long value, int shift) {
        for (int from = 0; from < 800; from += 400) {
            Bench x = Due.of(section);
            x.plan(40, 10, 0);
            for (int v : in) x.sample(v);
            Due.due(call + ", exact(-1)", x.exact(-1), value < 0 ? 1 : 0);
            for (int i = from; i < from + 400; i++) {
                long size = Math.abs(value);
                long want = i < shift || i - shift > 62 ? 0 : (size >> (i - shift)) & 1;
                Due.due(call + ", exact(" + i + ")", x.exact(i), want);
            }
        }
    }

    private static void bitsOfSize() {
        Due.says("16: Bit i of the size of what the exact filter gave, times 2 to the power of (14 times (samples, and sections, less 1))");
        int[] one = {3, 5, 0, 0, 0};
        bits("-21 over 2^14", one, new int[] {-7}, -21, 0);
        bits("-23 over 2^14", one, new int[] {-7, 4}, -23, 14);
        bits("20 over 2^14", one, new int[] {-7, 4, 0}, 20, 28);
        bits("0", one, new int[] {-7, 4, 0, 0}, 0, 0);
        int[] two = {3, 0, 0, 0, 0, 5, 0, 0, 0, 0};
        bits("15 over 2^28", two, new int[] {1}, 15, 0);
        bits("-30 over 2^28", two, new int[] {1, -2}, -30, 14);
        // 1, then -3 / 16384 of it, then 9 / 2^28: the power has just as much.
        int[] back = {16384, 0, 0, 3, 0};
        bits("1", back, new int[] {1}, 1, 14);
        bits("-3 over 2^14", back, new int[] {1, 0}, -3, 14);
        bits("9 over 2^28", back, new int[] {1, 0, 0}, 9, 14);
        bits("-27 over 2^42", back, new int[] {1, 0, 0, 0}, -27, 14);
        // All five numbers: each y over 2^14 more than the one before.
        int[] all = {2, 3, 5, 7, 11};
        long n0 = 2, n1 = (3L << 14) - 7 * n0, n2 = (5L << 28) - 7 * n1 - 11 * (n0 << 14), n3 = -7 * n2 - 11 * (n1 << 14);
        bits("b0", all, new int[] {1}, n0, 0);
        bits("b1, a1", all, new int[] {1, 0}, n1, 0);
        bits("b2, a2", all, new int[] {1, 0, 0}, n2, 0);
        bits("a1, a2", all, new int[] {1, 0, 0, 0}, n3, 0);
    }

    private static void belowZero() {
        Due.says("16: i = -1: 1 if it is below 0");
        Bench x = Due.of(1, 0, 0, 0, 0);
        x.plan(25, 24, 0);
        x.sample(-1);
        Due.due("-1 over 2^14", x.exact(-1), 1);
        x.sample(0);
        Due.due("0", x.exact(-1), 0);
        x.sample(1);
        Due.due("1 over 2^14", x.exact(-1), 0);
        x = Due.of(-32767, 0, 0, 0, 0);
        x.plan(40, 8, 0);
        x.sample(128);
        Due.due("the least", x.exact(-1), 1);
        x.sample(-128);
        Due.due("the greatest", x.exact(-1), 0);
    }

    private static void greatestPower() {
        Due.says("16: 32 samples and six sections: times 2^(14 times 37)");
        for (int from = 0; from < 800; from += 400) {
            Bench x = new Bench();
            for (int i = 0; i < 6; i++) x.section(16384, 0, 0, 0, 0);
            x.plan(47, 24, 1);
            for (int i = 0; i < 31; i++) x.sample(i);
            x.sample(-(1 << 23));
            Due.due("below 0", x.exact(-1), 1);
            for (int i = from; i < from + 400; i++) Due.due("exact(" + i + ")", x.exact(i), i == 14 * 37 + 23 ? 1 : 0);
            Due.due("drift()", x.drift(), 0);
        }
        // The lowest bit of all: 1 over 2^(14 times 37) comes of six sections whose b0 is 1, each 1 / 16384 of its y on.
        Bench x = new Bench();
        for (int i = 0; i < 6; i++) x.section(1, 0, 0, -1, 0);
        x.plan(47, 2, 0);
        x.sample(1);
        for (int i = 0; i < 31; i++) x.sample(0);
        // It is the number of ways to share 31 steps among six: 36 over 5, 376992.
        for (int i = 0; i < 40; i++) Due.due("exact(" + i + ")", x.exact(i), 376992 >> Math.min(i, 31) & 1);
        Due.due("above 0", x.exact(-1), 0);
    }

    private static void exactRefused() {
        Due.says("16: NONE: i is not -1 .. 799");
        Due.leaves("exact(-2)", Due::used, x -> x.exact(-2), -1);
        Due.leaves("exact(-1)", Due::used, x -> x.exact(-1) >= 0 ? 1 : 0, 1);
        Due.leaves("exact(0)", Due::used, x -> x.exact(0) >= 0 ? 1 : 0, 1);
        Due.leaves("exact(799)", Due::used, x -> x.exact(799), 0);
        Due.leaves("exact(800)", Due::used, x -> x.exact(800), -1);
        Due.leaves("exact(799) of six", Due::full, x -> x.exact(799), 0);
        Due.leaves("exact(800) of six", Due::full, x -> x.exact(800), -1);
        for (int far : FAR) Due.leaves("exact(" + far + ")", Due::used, x -> x.exact(far), -1);
        Due.says("16: NONE: as of drift()");
        for (int i : new int[] {-2, -1, 0, 799, 800}) {
            Due.leaves("exact(" + i + ") of none", Due::empty, x -> x.exact(i), -1);
            Due.leaves("exact(" + i + ") without a plan", Due::same, x -> x.exact(i), -1);
            Due.leaves("exact(" + i + ") without a sample", Due::two, x -> x.exact(i), -1);
        }
    }

    private static void quietOnes() {
        Due.says("17: All samples are as before the first one: how many there were since");
        Due.leaves("before the first", Due::two, x -> x.quiet(), 0);
        Bench x = Due.used();
        x.forge(1, 5, 8590065672L);
        Due.due("of three", x.quiet(), 3);
        Due.due("as before the first", Due.state(x).equals(Due.state(Due.two())) ? 1 : 0, 1);
        Due.due("again", x.quiet(), 0);
        Bench twin = Due.two();
        for (int v : new int[] {1234, -4321, 32768}) {
            Due.due("sample(" + v + ")", x.sample(v), twin.sample(v));
            Due.due("drift()", x.drift(), twin.drift());
        }
        Due.due("sample(99999)", x.sample(99999), -2);
        Due.due("of three since", x.quiet(), 3);
        x = Due.full();
        for (int i = 0; i < 98; i++) x.sample(i);
        Due.due("of a hundred", x.quiet(), 100);
        for (int way = 0; way <= 2; way++) quietOfSix(way);
        Due.says("17: NONE: no plan");
        Due.leaves("of none", Due::empty, y -> y.quiet(), -1);
        Due.leaves("without a plan", Due::same, y -> y.quiet(), -1);
        Due.leaves("with a HARD one", Due::hard, y -> y.quiet(), -1);
    }

    /** All that six sections keep is 0 again, by quiet() and by a new plan, in the exact filter too. */
    private static void quietOfSix(int way) {
        for (int again = 0; again <= 1; again++) {
            Bench x = six(way), twin = six(way);
            for (int i = 0; i < 4; i++) x.sample(511 - 100 * i);
            boolean left = false;
            for (int j = 0; j < 6; j++) left |= x.kept(j, 4) != 0;
            Due.due("LEFT is there", left ? 1 : 0, 1);
            if (again == 0) x.quiet();
            else x.plan(40, 10, way);
            Due.due("as a new plan", Due.state(x).equals(Due.state(twin)) ? 1 : 0, 1);
            for (int v : new int[] {0, 0, 333, -512}) Due.due("sample(" + v + ")", x.sample(v), twin.sample(v));
            Due.due("the same samples", Due.state(x).equals(Due.state(twin)) ? 1 : 0, 1);
            for (int i = 0; i < 130; i++) Due.due("exact(" + i + ")", x.exact(i), twin.exact(i));
        }
    }

    private static Bench six(int way) {
        Bench x = new Bench();
        for (int i = 0; i < 6; i++) x.section(16301 - i, 77 + i, -1003 + i, 901 + i, -503 - i);
        x.plan(40, 10, way);
        return x;
    }
}
