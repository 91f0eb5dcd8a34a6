/** Promises 6 and 7 and "2 CERTIFICATES": each sentence that names a boundary, on both sides of it. */
public final class CertificateBoundaryTests {
    private static final long ONE = 1L << 32;
    private static final int[] FAR = {Integer.MIN_VALUE, Integer.MAX_VALUE};

    public static void main(String[] args) {
        echoesBeforeTheFirst();
        roundedDown();
        slips();
        reach();
        whichM();
        restAtMostHalf();
        lastM();
        sumTooGreat();
        normTooGreat();
        divisor();
        gain();
        hardOnes();
        aboutRefused();
        echoRefused();
        echoTooGreat();
        Due.end();
    }

    private static Bench of(int a1, int a2) {
        return Due.of(1, 0, 0, a1, a2);
    }

    private static void echoesBeforeTheFirst() {
        Due.says("2 CERTIFICATES: e(0) = ONE, e(-1) = 0, s(0) = 0, u(-1) = 0");
        for (int a2 : new int[] {-32767, -1, 0, 1, 32767}) {
            Bench x = of(5, a2);
            Due.due("e(0)", x.echo(0, 0, 0), ONE);
            Due.due("s(0)", x.echo(0, 0, 1), 0);
            Due.due("u(0)", x.echo(0, 0, 2), ONE);
            Due.due("r(0)", x.echo(0, 0, 3), ONE);
            Due.due("e(1)", x.echo(0, 1, 0), -5 * 262144);
            Due.due("s(1)", x.echo(0, 1, 1), 2);
            Due.due("r(1)", x.echo(0, 1, 3), 5 * 262144 + 2 + Math.abs(a2) * 262144L);
        }
    }

    private static void roundedDown() {
        Due.says("2 CERTIFICATES: e(n) = .. / 16384, rounded down");
        long[][] of1 = {{0, ONE}, {1, -262144}, {2, 16}, {3, -1}, {4, 0}, {5, 0}, {1000, 0}};
        Bench x = of(1, 0);
        for (long[] e : of1) Due.due("e(" + e[0] + ") of 1, 0", x.echo(0, (int) e[0], 0), e[1]);
        long[][] of2 = {{1, 262144}, {2, 16}, {3, 0}, {4, 0}};
        x = of(-1, 0);
        for (long[] e : of2) Due.due("e(" + e[0] + ") of -1, 0", x.echo(0, (int) e[0], 0), e[1]);
        x = of(0, 1);
        long[] of3 = {ONE, 0, -262144, 0, 16, 0, -1, 0, 0, 0};
        for (int n = 0; n < of3.length; n++) Due.due("e(" + n + ") of 0, 1", x.echo(0, n, 0), of3[n]);
        x = of(16384, 0);
        for (int n = 0; n <= 6; n++) Due.due("e(" + n + "), no rest", x.echo(0, n, 0), n % 2 == 0 ? ONE : -ONE);
    }

    private static void slips() {
        Due.says("2 CERTIFICATES: s(n) = 1 + (the sum of all u(j), j from 0 to n - 1) / ONE, rounded down");
        slip(-14785, 15743, 10, 7 * ONE, 8);
        slip(5749, -4648, 4, 2 * ONE - 1, 2);
        slip(11512, 12491, 5, 3 * ONE - 1, 3);
        slip(0, 0, 1, ONE, 2);
    }

    private static void slip(int a1, int a2, int n, long wantSum, long want) {
        Bench x = of(a1, a2);
        long sum = 0;
        for (int j = 0; j < n; j++) {
            sum += x.echo(0, j, 2);
            Due.due("u(" + j + ")", x.echo(0, j, 2), Math.abs(x.echo(0, j, 0)) + x.echo(0, j, 1));
        }
        Due.due("the sum of " + a1 + ", " + a2, sum, wantSum);
        Due.due("s(" + n + ") of " + a1 + ", " + a2, x.echo(0, n, 1), want);
    }

    private static void reach() {
        Due.says("2 CERTIFICATES: r(n) = u(n) + (size of a2) u(n - 1) / 16384, rounded up");
        for (int sign = -1; sign <= 1; sign += 2) {
            Bench x = of(0, 3 * sign);
            Due.due("r(1), no rest", x.echo(0, 1, 3), 2 + 786432);
            // u(1) is 2: 6 / 16384, up, is 1.
            Due.due("r(2), up", x.echo(0, 2, 3), x.echo(0, 2, 2) + 1);
            x = of(0, 8192 * sign);
            Due.due("r(2), no rest", x.echo(0, 2, 3), x.echo(0, 2, 2) + 1);
            x = of(0, 8193 * sign);
            Due.due("r(2), just above", x.echo(0, 2, 3), x.echo(0, 2, 2) + 2);
        }
    }

    private static void certificate(int a1, int a2, long m, long sum, long rest, long norm) {
        Bench x = of(a1, a2);
        String of = " of " + a1 + ", " + a2;
        Due.due("HARD" + of, x.about(0, 1), 0);
        Due.due("M" + of, x.about(0, 2), m);
        Due.due("SUM" + of, x.about(0, 3), sum);
        Due.due("REST" + of, x.about(0, 4), rest);
        Due.due("NORM" + of, x.about(0, 5), norm);
    }

    private static void whichM() {
        Due.says("2 CERTIFICATES: M from 2 on, REST(M) the greater one of r(M) and r(M - 1)");
        certificate(0, 0, 2, ONE + 2, 2, 4295032836L);
        Bench x = of(-11991, 9674);
        Due.due("r(2) is not above ONE / 2", x.echo(0, 2, 3), 2091450708L);
        Due.due("r(3) is", x.echo(0, 3, 3), 2167337931L);
        Due.due("r(4) is", x.echo(0, 4, 3), 2543092786L);
        Due.due("r(5) is not", x.echo(0, 5, 3), 1007359218L);
        Due.due("M, the first of two", x.about(0, 2), 6);
        Due.due("REST", x.about(0, 4), x.echo(0, 6, 3));
        long sum = 0;
        for (int n = 0; n < 6; n++) sum += x.echo(0, n, 3);
        Due.due("SUM(M) is r(0) + .. + r(M - 1)", x.about(0, 3), sum);
    }

    private static void restAtMostHalf() {
        Due.says("2 CERTIFICATES: REST(M) is at most ONE / 2");
        certificate(-14881, 3405, 4, 14697239269L, ONE / 2, 29394478538L);
        certificate(-3741, 12203, 8, 25966326577L, ONE / 2, 51932653154L);
        // r(3) is one more here, so that M is not 4.
        Bench x = of(14881, 3405);
        Due.due("r(3)", x.echo(0, 3, 3), ONE / 2 + 1);
        certificate(14881, 3405, 5, 15928394019L, 1231154749L, 22329053058L);
    }

    private static void lastM() {
        Due.says("2 CERTIFICATES: M is the least one, 2 .. 1000; HARD, if there is none");
        Bench x = of(-1054, -15308);
        Due.due("M 1000", x.about(0, 2), 1000);
        Due.due("its NORM", x.about(0, 5), 6189387615988L);
        isHard(-991, -15371, 1);
        // This one never has an M: all echoes are ONE.
        isHard(-16384, 0, 0);
        isHard(16384, 0, 0);
        isHard(0, 16384, 0);
        isHard(0, -16384, 0);
    }

    private static void isHard(int a1, int a2, int stable) {
        Bench x = of(a1, a2);
        String of = " of " + a1 + ", " + a2;
        Due.due("STABLE" + of, x.about(0, 0), stable);
        Due.due("HARD" + of, x.about(0, 1), 1);
        for (int what = 2; what <= 6; what++) Due.due("about(0, " + what + ")" + of, x.about(0, what), -1);
        Due.due("plan(47, 2, 0)" + of, x.plan(47, 2, 0), -1);
    }

    private static void sumTooGreat() {
        Due.says("2 CERTIFICATES: HARD, if SUM(M) is above 2^46");
        // The greatest SUM up to 2^46, which has too great a NORM, and the least above.
        isHard(-32627, 16247, 1);
        isHard(-32674, 16297, 1);
        // SUM is above 2^47 here: times 65536 it would not stay in 64 bits.
        isHard(-32552, 16169, 1);
        Due.says("2 CERTIFICATES: HARD, if for some n from 0 to M, u(n) is above 2^46");
        isHard(32767, 32767, 0);
        isHard(-32767, 32767, 0);
        isHard(32767, -32767, 0);
        isHard(-32767, -32767, 0);
        isHard(-32767, 0, 0);
        isHard(0, -32767, 0);
    }

    private static void normTooGreat() {
        Due.says("2 CERTIFICATES: NORM above 2^44 the section is HARD, too");
        // Of all numbers a1, a2 these have the greatest NORM up to 2^44, 17592186044416, and the least above.
        Bench x = of(31795, 15426);
        Due.due("NORM", x.about(0, 5), 17592171955239L);
        Due.due("HARD", x.about(0, 1), 0);
        Due.due("a plan", x.plan(47, 2, 0) >= 0 ? 1 : 0, 1);
        isHard(31947, 16334, 1);
        isHard(-31947, 16334, 1);
    }

    private static void divisor() {
        Due.says("2 CERTIFICATES: D being (ONE less REST(M)) / 65536, rounded down; NORM rounded up");
        for (int[] a : new int[][] {{0, 0}, {-14881, 3405}, {14881, 3405}, {-3741, 12203}, {1, 0}, {0, -1}, {-16384, 8192}}) {
            Bench x = of(a[0], a[1]);
            long d = Math.floorDiv(ONE - x.about(0, 4), 65536L);
            long times = x.about(0, 3) * 65536;
            Due.due("NORM of " + a[0] + ", " + a[1], x.about(0, 5), times / d + (times % d == 0 ? 0 : 1));
        }
        // Divided by D without a rest, and with a rest of 1.
        certificate(-8811, 2693, 3, 8226505989L, 915834115L, 10456203264L);
        certificate(7385, -3589, 4, 11047980511L, 1638722298L, 17863868416L);
        certificate(9086, -3115, 4, 12128292234L, 2044594853L, 23148200480L);
        certificate(6590, 3890, 3, 7777288581L, 735052163L, 9383316786L);
    }

    private static void gain() {
        Due.says("2 CERTIFICATES: GAIN is (the sum of the sizes of b0, b1, b2) times NORM / 16384, rounded up");
        long norm = 4295032836L;
        gainOf(0, 0, 0, 0);
        gainOf(1, 0, 0, norm / 16384 + 1);
        gainOf(0, -1, 0, norm / 16384 + 1);
        // NORM is 4 times a number, so that 4096 of them leave no rest.
        gainOf(0, 0, 4096, norm / 4);
        gainOf(0, 0, -4096, norm / 4);
        gainOf(4096, 1, 0, norm / 4 + norm / 16384 + 1);
        gainOf(16384, -16384, 16384, 3 * norm);
        gainOf(32767, 32767, 32767, (98301 * norm + 16383) / 16384);
        gainOf(-32767, -32767, -32767, (98301 * norm + 16383) / 16384);
        // The greatest there is: close to 6 times 2^44.
        Bench x = Due.of(32767, -32767, 32767, 31795, 15426);
        Due.due("the greatest GAIN", x.about(0, 6), (98301 * 17592171955239L + 16383) / 16384);
    }

    private static void gainOf(int b0, int b1, int b2, long want) {
        Bench x = Due.of(b0, b1, b2, 0, 0);
        Due.due("GAIN of " + b0 + ", " + b1 + ", " + b2, x.about(0, 6), want);
    }

    private static void hardOnes() {
        Due.says("6: of a HARD one NONE: 2 to 6");
        for (int what = 2; what <= 6; what++) {
            int w = what;
            Due.leaves("about(1, " + w + ")", Due::hard, x -> x.about(1, w), -1);
        }
        Due.leaves("about(1, 0)", Due::hard, x -> x.about(1, 0), 0);
        Due.leaves("about(1, 1)", Due::hard, x -> x.about(1, 1), 1);
        Due.leaves("about(0, 1)", Due::hard, x -> x.about(0, 1), 0);
        Due.leaves("about(0, 2), of the other one", Due::hard, x -> x.about(0, 2), 4);
        Due.leaves("echo(1, 1000, 0)", Due::hard, x -> x.echo(1, 1000, 0), ONE);
    }

    private static void aboutRefused() {
        Due.says("6: NONE: no such section, or what");
        for (int what = 0; what <= 6; what++) {
            int w = what;
            Due.leaves("about(-1, " + w + ")", Due::used, x -> x.about(-1, w), -1);
            Due.leaves("about(2, " + w + ")", Due::used, x -> x.about(2, w), -1);
            Due.leaves("about(6, " + w + ")", Due::full, x -> x.about(6, w), -1);
            for (int k : FAR) Due.leaves("about(" + k + ", " + w + ")", Due::used, x -> x.about(k, w), -1);
        }
        Due.leaves("about(1, 6)", Due::used, x -> x.about(1, 6), 8590065672L);
        Due.leaves("about(5, 0)", Due::full, x -> x.about(5, 0), 1);
        for (int what : new int[] {-1, 7, Integer.MIN_VALUE, Integer.MAX_VALUE}) {
            Due.leaves("about(0, " + what + ")", Due::used, x -> x.about(0, what), -1);
        }
    }

    private static void echoRefused() {
        Due.says("7: NONE: no such section, what, n is not 0 .. 1000");
        for (int what = 0; what <= 3; what++) {
            int w = what;
            long first = what == 1 ? 0 : ONE;
            Due.leaves("echo(1, 0, " + w + ")", Due::used, x -> x.echo(1, 0, w), first);
            Due.leaves("echo(1, 1000, " + w + ")", Due::used, x -> x.echo(1, 1000, w), w == 0 ? 0 : 2);
            for (int k : new int[] {-1, 2, Integer.MIN_VALUE, Integer.MAX_VALUE}) {
                Due.leaves("echo(" + k + ", 0, " + w + ")", Due::used, x -> x.echo(k, 0, w), -1);
            }
            for (int n : new int[] {-1, 1001, Integer.MIN_VALUE, Integer.MAX_VALUE}) {
                Due.leaves("echo(1, " + n + ", " + w + ")", Due::used, x -> x.echo(1, n, w), -1);
            }
        }
        for (int what : new int[] {-1, 4, Integer.MIN_VALUE, Integer.MAX_VALUE}) {
            Due.leaves("echo(1, 0, " + what + ")", Due::used, x -> x.echo(1, 0, what), -1);
        }
        Due.leaves("echo(5, 0, 0)", Due::full, x -> x.echo(5, 0, 0), ONE);
        Due.leaves("echo(6, 0, 0)", Due::full, x -> x.echo(6, 0, 0), -1);
    }

    private static void echoTooGreat() {
        Due.says("7: NONE: some u(j), j 0 .. n, is above 2^46");
        // Of all numbers a1, a2 the closest below 2^46, 70368744177664, and the closest above.
        Bench x = of(5314, -31781);
        Due.due("u(23)", x.echo(0, 23, 2), 70368744173729L);
        for (int what = 0; what <= 3; what++) Due.due("u(24) is above", x.echo(0, 24, what), -1);
        x = of(24633, 21063);
        Due.due("u(74) is not", x.echo(0, 74, 2) > 0 ? 1 : 0, 1);
        for (int what = 0; what <= 3; what++) {
            Due.due("u(75), 17333 above", x.echo(0, 75, what), -1);
            Due.due("so is all behind it", x.echo(0, 76, what), -1);
            Due.due("to the end", x.echo(0, 1000, what), -1);
        }
        // Each second echo is 0, but what lies before it counts.
        x = of(0, -32767);
        Due.due("u(28)", x.echo(0, 28, 2), 70338685382074L);
        Due.due("u(29)", x.echo(0, 29, 2), 32755);
        Due.due("r(29) may be above 2^46", x.echo(0, 29, 3), 32755 + (32767 * 70338685382074L + 16383) / 16384);
        for (int what = 0; what <= 3; what++) {
            Due.due("u(30) is above", x.echo(0, 30, what), -1);
            Due.due("u(31) is not", x.echo(0, 31, what), -1);
        }
    }
}
