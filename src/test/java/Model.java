import java.math.BigInteger;
import java.util.ArrayList;
import java.util.List;

/**
 * The document once more, word by word and without limits of 64 bits: what
 * FilterBench answers is compared with what this answers. It is slow, and it
 * goes other ways than FilterBench where there are any (stability by Hurwitz,
 * the exact filter in the order of the sections' numbers).
 */
final class Model {
    static final int NONE = -1, OUTSIDE = -2, ROOM = -3;
    static final BigInteger ZERO = BigInteger.ZERO, TWO = BigInteger.TWO;
    static final BigInteger ONE = pow(32), LIMIT = pow(46), UNIT = pow(14), FINER = pow(16);

    /** A section: b0, b1, b2, a1, a2. */
    final List<int[]> sections = new ArrayList<>();
    Plan plan = null;

    static final class Certificate {
        boolean hard = true;
        int m;
        BigInteger sum, rest, norm, gain;
    }

    static final class Plan {
        int w, k, way, fine, out, good;
        int[] order, shifts;
        BigInteger[][] numbers;
        /** Of each place x1, x2, y1, y2, left. */
        BigInteger[][] kept;
        List<Integer> samples = new ArrayList<>();
        BigInteger latest = ZERO, madeSlip;
    }

    static BigInteger pow(int n) {
        return BigInteger.ONE.shiftLeft(n);
    }

    static BigInteger big(long v) {
        return BigInteger.valueOf(v);
    }

    static BigInteger down(BigInteger v, BigInteger d) {
        BigInteger[] qr = v.divideAndRemainder(d);
        return qr[1].signum() < 0 ? qr[0].subtract(BigInteger.ONE) : qr[0];
    }

    static BigInteger up(BigInteger v, BigInteger d) {
        return down(v.negate(), d).negate();
    }

    static BigInteger sizes(int... all) {
        long sum = 0;
        for (int v : all) sum += Math.abs(v);
        return big(sum);
    }

    static boolean isIn(long v, long low, long high) {
        return v >= low && v <= high;
    }

    // ---- sections

    int section(int... numbers) {
        for (int v : numbers) if (!isIn(v, -32767, 32767)) return OUTSIDE;
        if (sections.size() == 6) return ROOM;
        sections.add(numbers.clone());
        plan = null;
        return sections.size() - 1;
    }

    int clear() {
        int n = sections.size();
        sections.clear();
        plan = null;
        return n;
    }

    int isStable(int degree, int... c) {
        if (!isIn(degree, 0, 4) || c[0] == 0) return NONE;
        for (int i = 0; i <= degree; i++) if (!isIn(c[i], -1000, 1000)) return NONE;
        return isHurwitz(degree, c) ? 1 : 0;
    }

    /** By z = (1 + s) / (1 - s) the circle's inside becomes the left half. */
    static boolean isHurwitz(int n, int... c) {
        BigInteger[] q = new BigInteger[n + 1];
        java.util.Arrays.fill(q, ZERO);
        for (int i = 0; i <= n; i++) {
            BigInteger[] p = {big(c[i])};
            for (int f = 0; f < n; f++) p = timesLinear(p, f < n - i ? 1 : -1);
            for (int d = 0; d <= n; d++) q[d] = q[d].add(p[d]);
        }
        if (q[n].signum() < 0) for (int d = 0; d <= n; d++) q[d] = q[d].negate();
        for (int d = 0; d <= n; d++) if (q[d].signum() <= 0) return false;
        if (n == 3) return q[2].multiply(q[1]).compareTo(q[3].multiply(q[0])) > 0;
        if (n == 4) {
            BigInteger left = q[3].multiply(q[2]).multiply(q[1]);
            BigInteger right = q[4].multiply(q[1]).multiply(q[1]).add(q[3].multiply(q[3]).multiply(q[0]));
            return left.compareTo(right) > 0;
        }
        return true;
    }

    static BigInteger[] timesLinear(BigInteger[] p, int sign) {
        BigInteger[] r = new BigInteger[p.length + 1];
        java.util.Arrays.fill(r, ZERO);
        for (int d = 0; d < p.length; d++) {
            r[d] = r[d].add(p[d]);
            r[d + 1] = r[d + 1].add(p[d].multiply(big(sign)));
        }
        return r;
    }

    /** Rows e, s, u, r for n 0 .. last; short after the first u above 2^46 (which is in it). */
    static List<BigInteger[]> rows(int[] section, int last) {
        BigInteger a1 = big(section[3]), a2 = big(section[4]);
        List<BigInteger[]> rows = new ArrayList<>();
        BigInteger all = ZERO;
        for (int n = 0; n <= last; n++) {
            BigInteger e = ONE, s = ZERO, uBefore = ZERO;
            if (n > 0) {
                BigInteger e2 = n > 1 ? rows.get(n - 2)[0] : ZERO;
                e = down(a1.multiply(rows.get(n - 1)[0]).add(a2.multiply(e2)).negate(), UNIT);
                s = BigInteger.ONE.add(down(all, ONE));
                uBefore = rows.get(n - 1)[2];
            }
            BigInteger u = e.abs().add(s);
            rows.add(new BigInteger[] {e, s, u, u.add(up(a2.abs().multiply(uBefore), UNIT))});
            all = all.add(u);
            if (u.compareTo(LIMIT) > 0) break;
        }
        return rows;
    }

    static boolean isShort(List<BigInteger[]> rows) {
        return rows.get(rows.size() - 1)[2].compareTo(LIMIT) > 0;
    }

    static BigInteger sumOf(List<BigInteger[]> rows, int m) {
        BigInteger sum = ZERO;
        for (int n = 0; n < m; n++) sum = sum.add(rows.get(n)[3]);
        return sum;
    }

    static BigInteger restOf(List<BigInteger[]> rows, int m) {
        return rows.get(m)[3].max(rows.get(m - 1)[3]);
    }

    static Certificate certify(int[] s) {
        Certificate c = new Certificate();
        List<BigInteger[]> rows = rows(s, 1000);
        for (int m = 2; m < rows.size(); m++) {
            if (rows.get(m)[2].compareTo(LIMIT) > 0) return c;
            if (restOf(rows, m).compareTo(pow(31)) > 0) continue;
            c.m = m;
            c.sum = sumOf(rows, m);
            c.rest = restOf(rows, m);
            if (c.sum.compareTo(LIMIT) > 0) return c;
            c.norm = up(c.sum.multiply(FINER), down(ONE.subtract(c.rest), FINER));
            if (c.norm.compareTo(pow(44)) > 0) return c;
            c.gain = up(sizes(s[0], s[1], s[2]).multiply(c.norm), UNIT);
            c.hard = false;
            return c;
        }
        return c;
    }

    long about(int k, int what) {
        if (!isIn(k, 0, sections.size() - 1) || !isIn(what, 0, 6)) return NONE;
        int[] s = sections.get(k);
        if (what == 0) return isHurwitz(2, 16384, s[3], s[4]) ? 1 : 0;
        Certificate c = certify(s);
        if (what == 1) return c.hard ? 1 : 0;
        if (c.hard) return NONE;
        BigInteger[] all = {big(c.m), c.sum, c.rest, c.norm, c.gain};
        return all[what - 2].longValueExact();
    }

    long echo(int k, int n, int what) {
        if (!isIn(k, 0, sections.size() - 1) || !isIn(what, 0, 3) || !isIn(n, 0, 1000)) return NONE;
        List<BigInteger[]> rows = rows(sections.get(k), n);
        return isShort(rows) ? NONE : rows.get(n)[what].longValueExact();
    }

    // ---- plans

    /** MOST' and SLIP', or null where they are not GOOD. */
    static BigInteger[] grow(int[] s, BigInteger norm, BigInteger gain, BigInteger most, BigInteger slip, int way) {
        BigInteger t = up(gain, FINER);
        BigInteger m = up(most.multiply(t), FINER);
        BigInteger l = up(slip.multiply(t), FINER).add(up(norm, way == 2 ? ONE.multiply(TWO) : ONE));
        if (m.add(l).compareTo(LIMIT) > 0) return null;
        BigInteger word = sizes(s[0], s[1], s[2]).multiply(most.add(slip))
                .add(sizes(s[3], s[4]).multiply(m.add(l))).add(big(32768));
        return word.compareTo(pow(62)) > 0 ? null : new BigInteger[] {m, l};
    }

    static BigInteger[] shifted(BigInteger[] grown, int shift) {
        BigInteger most = up(grown[0], pow(shift));
        BigInteger slip = up(grown[1], pow(shift)).add(shift == 0 ? ZERO : BigInteger.ONE);
        return new BigInteger[] {most, slip};
    }

    static List<int[]> orders(int n) {
        List<int[]> all = new ArrayList<>();
        addOrders(new int[n], 0, all);
        return all;
    }

    private static void addOrders(int[] order, int filled, List<int[]> all) {
        if (filled == order.length) {
            all.add(order.clone());
            return;
        }
        for (int v = 0; v < order.length; v++) {
            boolean taken = false;
            for (int i = 0; i < filled; i++) taken |= order[i] == v;
            if (taken) continue;
            order[filled] = v;
            addOrders(order, filled + 1, all);
        }
    }

    private Plan attempt(int[] order, int fine, int w, int k, int way, List<Certificate> certificates) {
        if (k - 1 + fine >= w - 1) return null;
        int n = order.length;
        Plan p = new Plan();
        p.w = w;
        p.k = k;
        p.way = way;
        p.fine = fine;
        p.out = fine;
        p.order = order;
        p.shifts = new int[n];
        p.numbers = new BigInteger[n][];
        BigInteger[] now = {pow(k - 1 + fine), ZERO};
        for (int j = 0; j < n; j++) {
            Certificate c = certificates.get(order[j]);
            BigInteger[] grown = grow(sections.get(order[j]), c.norm, c.gain, now[0], now[1], way);
            if (grown == null) return null;
            int shift = 0;
            while (shift <= 12 && tooWide(shifted(grown, shift), w)) shift++;
            if (shift > 12) return null;
            now = shifted(grown, shift);
            p.out -= shift;
            p.shifts[j] = shift;
            p.numbers[j] = new BigInteger[] {big(order[j]), big(c.m), c.sum, c.rest, c.norm, c.gain, big(shift), now[0], now[1]};
        }
        p.madeSlip = now[1];
        return p.out < 0 ? null : p;
    }

    private static boolean tooWide(BigInteger[] both, int w) {
        return both[0].add(both[1]).compareTo(pow(w - 1)) >= 0;
    }

    int plan(int w, int k, int way) {
        if (!isIn(w, 16, 47) || !isIn(k, 2, 24) || !isIn(way, 0, 2)) return OUTSIDE;
        plan = null;
        if (sections.isEmpty()) return NONE;
        List<Certificate> certificates = new ArrayList<>();
        for (int[] s : sections) certificates.add(certify(s));
        for (Certificate c : certificates) if (c.hard) return NONE;
        Plan best = null;
        int good = 0, last = sections.size() - 1;
        for (int[] order : orders(sections.size())) {
            for (int fine = 24; fine >= 0; fine--) {
                Plan p = attempt(order, fine, w, k, way, certificates);
                if (p == null) continue;
                good++;
                if (best == null || p.out > best.out
                        || p.out == best.out && p.numbers[last][8].compareTo(best.numbers[last][8]) < 0) best = p;
            }
        }
        plan = best;
        if (best == null) return NONE;
        best.good = good;
        quiet();
        return best.out;
    }

    private boolean isPlace(int j) {
        return plan != null && isIn(j, 0, plan.order.length - 1);
    }

    long planned(int j, int what) {
        return isPlace(j) && isIn(what, 0, 8) ? plan.numbers[j][what].longValueExact() : NONE;
    }

    int forge(int j, int what, long v) {
        if (!isPlace(j) || !isIn(what, 0, 8)) return NONE;
        if (!isIn(v, 0, 1L << 50)) return OUTSIDE;
        plan.numbers[j][what] = big(v);
        return 1;
    }

    int check() {
        if (plan == null) return NONE;
        for (int j = 0; j < plan.order.length; j++) {
            int wrong = wrongAt(j);
            if (wrong != 0) return 10 * (j + 1) + wrong;
        }
        return 0;
    }

    private int wrongAt(int j) {
        BigInteger[] p = plan.numbers[j];
        if (p[0].compareTo(big(sections.size())) >= 0) return 1;
        for (int i = 0; i < j; i++) if (plan.numbers[i][0].equals(p[0])) return 1;
        int[] s = sections.get(p[0].intValueExact());
        if (!isIn(p[1].longValueExact(), 2, 1000)) return 2;
        int m = p[1].intValueExact();
        List<BigInteger[]> rows = rows(s, m);
        if (isShort(rows) || sumOf(rows, m).compareTo(LIMIT) > 0) return 2;
        if (p[2].compareTo(sumOf(rows, m)) < 0 || p[2].compareTo(LIMIT) > 0) return 2;
        if (p[3].compareTo(restOf(rows, m)) < 0 || p[3].compareTo(pow(31)) > 0) return 2;
        BigInteger d = down(ONE.subtract(p[3]), FINER);
        if (p[4].multiply(d).compareTo(p[2].multiply(FINER)) < 0 || p[4].compareTo(pow(44)) > 0) return 3;
        if (p[5].multiply(UNIT).compareTo(sizes(s[0], s[1], s[2]).multiply(p[4])) < 0) return 4;
        if (p[5].compareTo(pow(48)) > 0) return 4;
        BigInteger most = j == 0 ? pow(plan.k - 1 + plan.fine) : plan.numbers[j - 1][7];
        BigInteger slip = j == 0 ? ZERO : plan.numbers[j - 1][8];
        BigInteger[] grown = grow(s, p[4], p[5], most, slip, plan.way);
        if (grown == null) return 5;
        if (p[6].compareTo(big(12)) > 0) return 6;
        BigInteger[] both = shifted(grown, p[6].intValueExact());
        if (p[7].compareTo(both[0]) < 0 || p[8].compareTo(both[1]) < 0) return 6;
        if (tooWide(new BigInteger[] {p[7], p[8]}, plan.w)) return 6;
        if (j < plan.order.length - 1) return 0;
        BigInteger left = big(plan.fine);
        for (BigInteger[] numbers : plan.numbers) left = left.subtract(numbers[6]);
        return left.equals(big(plan.out)) ? 0 : 7;
    }

    int told(int what) {
        if (plan == null || !isIn(what, 0, 6)) return NONE;
        int[] all = {plan.fine, plan.w, plan.k, plan.way, plan.out, plan.samples.size(), plan.good};
        return all[what];
    }

    // ---- the filter

    long sample(int x) {
        if (plan == null) return NONE;
        if (Math.abs((long) x) > 1L << (plan.k - 1)) return OUTSIDE;
        plan.samples.add(x);
        BigInteger v = big(x).shiftLeft(plan.fine);
        for (int j = 0; j < plan.order.length; j++) {
            int[] s = sections.get(plan.order[j]);
            BigInteger[] kept = plan.kept[j];
            BigInteger a = big(s[0]).multiply(v).add(big(s[1]).multiply(kept[0])).add(big(s[2]).multiply(kept[1]))
                    .subtract(big(s[3]).multiply(kept[2])).subtract(big(s[4]).multiply(kept[3]));
            if (plan.way == 1) a = a.add(kept[4]);
            if (plan.way == 2) a = a.add(big(8192));
            BigInteger y = down(a, UNIT);
            plan.kept[j] = new BigInteger[] {v, kept[0], y, kept[2], a.subtract(y.multiply(UNIT))};
            v = down(y, pow(plan.shifts[j]));
        }
        plan.latest = v;
        return v.longValueExact();
    }

    long kept(int j, int what) {
        return isPlace(j) && isIn(what, 0, 4) ? plan.kept[j][what].longValueExact() : 0;
    }

    /** Over 2^(14 point()): all samples anew, each value a fraction over 2^scale. */
    BigInteger exactNow() {
        int n = plan.samples.size(), scale = 14 * 60;
        BigInteger[] x = new BigInteger[n];
        for (int i = 0; i < n; i++) x[i] = big(plan.samples.get(i)).shiftLeft(scale);
        for (int[] s : sections) {
            BigInteger[] y = new BigInteger[n];
            for (int i = 0; i < n; i++) {
                BigInteger a = big(s[0]).multiply(x[i]);
                if (i >= 1) a = a.add(big(s[1]).multiply(x[i - 1])).subtract(big(s[3]).multiply(y[i - 1]));
                if (i >= 2) a = a.add(big(s[2]).multiply(x[i - 2])).subtract(big(s[4]).multiply(y[i - 2]));
                y[i] = wholly(a, 14);
            }
            x = y;
        }
        return wholly(x[n - 1], scale - 14 * point());
    }

    private static BigInteger wholly(BigInteger v, int bits) {
        if (v.signum() != 0 && v.getLowestSetBit() < bits) throw new IllegalStateException("not exact");
        return v.shiftRight(bits);
    }

    private int point() {
        return plan.samples.size() + sections.size() - 1;
    }

    private boolean isExactThere() {
        return plan != null && isIn(plan.samples.size(), 1, 32);
    }

    long drift() {
        if (!isExactThere()) return NONE;
        BigInteger exact = exactNow().shiftLeft(plan.out);
        BigInteger difference = plan.latest.shiftLeft(14 * point()).subtract(exact).abs().shiftRight(14 * point());
        if (difference.compareTo(plan.madeSlip) >= 0) throw new IllegalStateException("drift is not below SLIP");
        return difference.longValueExact();
    }

    int exact(int i) {
        if (!isExactThere() || !isIn(i, -1, 799)) return NONE;
        BigInteger v = exactNow();
        if (i == -1) return v.signum() < 0 ? 1 : 0;
        return v.abs().testBit(i) ? 1 : 0;
    }

    int quiet() {
        if (plan == null) return NONE;
        int before = plan.samples.size();
        plan.samples.clear();
        plan.latest = ZERO;
        plan.kept = new BigInteger[plan.order.length][];
        for (int j = 0; j < plan.order.length; j++) plan.kept[j] = new BigInteger[] {ZERO, ZERO, ZERO, ZERO, ZERO};
        return before;
    }
}
