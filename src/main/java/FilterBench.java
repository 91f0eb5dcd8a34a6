import java.util.Arrays;

/**
 * A bench for filters of second order one behind the other, in whole numbers:
 * their stability, certified bounds, a plan of words, and the filter itself.
 */
public final class FilterBench {
    public static final int NONE = -1, OUTSIDE = -2, ROOM = -3;

    private static final int SECTIONS_AT_MOST = 6;
    private static final int NUMBER_AT_MOST = 32767;
    private static final int UNIT_BITS = 14;
    private static final long UNIT = 1L << UNIT_BITS;
    private static final int FINER_BITS = 16;

    private static final int DEGREE_AT_MOST = 4;
    private static final int COEFFICIENT_AT_MOST = 1000;

    private static final int ONE_BITS = 32;
    private static final long ONE = 1L << ONE_BITS;
    private static final int M_AT_LEAST = 2, M_AT_MOST = 1000;
    private static final long REST_AT_MOST = ONE / 2;
    private static final long SIZE_AT_MOST = 1L << 46;
    private static final long NORM_AT_MOST = 1L << 44;
    private static final long GAIN_AT_MOST = 1L << 48;
    private static final long WORD_AT_MOST = 1L << 62;
    private static final long FORGED_AT_MOST = 1L << 50;

    private static final int W_AT_LEAST = 16, W_AT_MOST = 47;
    private static final int K_AT_LEAST = 2, K_AT_MOST = 24;
    private static final int CARRIED = 1, NEAREST = 2;
    private static final int FINE_AT_MOST = 24;
    private static final int SHIFT_AT_MOST = 12;
    private static final int ORDERS_AT_MOST = 720;

    /** What a place of a plan has, as planned() and forge() number it. */
    private static final int SECTION = 0, M = 1, SUM = 2, REST = 3, NORM = 4,
            GAIN = 5, SHIFT = 6, MOST = 7, SLIP = 8, NUMBERS = 9;

    private static final int EXACT_SAMPLES = 32;
    private static final int EXACT_BITS = 800;
    /** Limbs of 14 bits: enough for EXACT_BITS and a sign. */
    private static final int LIMBS = 60;
    private static final long LIMB_MASK = UNIT - 1;

    private final Section[] rows = new Section[SECTIONS_AT_MOST];
    private final Place[] places = new Place[SECTIONS_AT_MOST];
    private final long[] polynomial = new long[DEGREE_AT_MOST + 1];
    private final Echoes echoes = new Echoes();
    private final Bounds bounds = new Bounds();
    private final Search search = new Search();
    private final ExactFilter exactFilter = new ExactFilter();
    private int count = 0;
    private boolean planThere = false;
    private int wordBits = 0, sampleBits = 0, rounding = 0, fine = 0, out = 0, good = 0;
    private int samples = 0;
    private long latest = 0;

    public FilterBench() {
        for (int i = 0; i < SECTIONS_AT_MOST; i++) {
            rows[i] = new Section();
            places[i] = new Place();
        }
    }

    // ---- sections

    public int section(int b0, int b1, int b2, int a1, int a2) {
        if (!isNumber(b0) || !isNumber(b1) || !isNumber(b2) || !isNumber(a1) || !isNumber(a2)) {
            return OUTSIDE;
        }
        if (count >= SECTIONS_AT_MOST) {
            return ROOM;
        }
        Section made = rows[count];
        made.set(b0, b1, b2, a1, a2);
        made.certify(echoes);
        planThere = false;
        count++;
        return count - 1;
    }

    public int clear() {
        int before = count;
        count = 0;
        planThere = false;
        return before;
    }

    public int sections() {
        return count;
    }

    public int isStable(int degree, int c0, int c1, int c2, int c3, int c4) {
        if (degree < 0 || degree > DEGREE_AT_MOST || c0 == 0) {
            return NONE;
        }
        polynomial[0] = c0;
        polynomial[1] = c1;
        polynomial[2] = c2;
        polynomial[3] = c3;
        polynomial[4] = c4;
        for (int i = 0; i <= degree; i++) {
            if (polynomial[i] < -COEFFICIENT_AT_MOST || polynomial[i] > COEFFICIENT_AT_MOST) {
                return NONE;
            }
        }
        return allRootsInside(polynomial, degree) ? 1 : 0;
    }

    public long about(int k, int what) {
        if (!isSection(k)) {
            return NONE;
        }
        Section s = rows[k];
        switch (what) {
            case 0:
                return quadraticIsStable(UNIT, s.a1, s.a2) ? 1 : 0;
            case 1:
                return s.hard ? 1 : 0;
            case 2:
                return s.hard ? NONE : s.m;
            case 3:
                return s.hard ? NONE : s.sum;
            case 4:
                return s.hard ? NONE : s.rest;
            case 5:
                return s.hard ? NONE : s.norm;
            case 6:
                return s.hard ? NONE : s.gain;
            default:
                return NONE;
        }
    }

    public long echo(int k, int n, int what) {
        if (!isSection(k) || n < 0 || n > M_AT_MOST) {
            return NONE;
        }
        if (!echoes.goTo(rows[k], n)) {
            return NONE;
        }
        switch (what) {
            case 0:
                return echoes.e;
            case 1:
                return echoes.s;
            case 2:
                return echoes.u;
            case 3:
                return echoes.r;
            default:
                return NONE;
        }
    }

    // ---- plans

    public int plan(int w, int k, int way) {
        if (w < W_AT_LEAST || w > W_AT_MOST || k < K_AT_LEAST || k > K_AT_MOST
                || way < 0 || way > NEAREST) {
            return OUTSIDE;
        }
        planThere = false;
        if (count == 0 || anyIsHard()) {
            return NONE;
        }
        search.start(count, w, k, way);
        search.tryAll(rows);
        if (search.bestOut < 0) {
            return NONE;
        }
        wordBits = w;
        sampleBits = k;
        rounding = way;
        fine = search.bestFine;
        out = search.bestOut;
        good = search.good;
        writePlaces();
        planThere = true;
        startSamples();
        return out;
    }

    public long planned(int j, int what) {
        if (!isPlace(j) || !isPlaceNumber(what)) {
            return NONE;
        }
        return places[j].numbers[what];
    }

    public int forge(int j, int what, long v) {
        if (!isPlace(j) || !isPlaceNumber(what)) {
            return NONE;
        }
        if (v < 0 || v > FORGED_AT_MOST) {
            return OUTSIDE;
        }
        places[j].numbers[what] = v;
        return 1;
    }

    public int check() {
        if (!planThere) {
            return NONE;
        }
        for (int j = 0; j < count; j++) {
            int wrong = firstWrongAt(j);
            if (wrong != 0) {
                return 10 * (j + 1) + wrong;
            }
        }
        return 0;
    }

    public int told(int what) {
        if (!planThere) {
            return NONE;
        }
        switch (what) {
            case 0:
                return fine;
            case 1:
                return wordBits;
            case 2:
                return sampleBits;
            case 3:
                return rounding;
            case 4:
                return out;
            case 5:
                return samples;
            case 6:
                return good;
            default:
                return NONE;
        }
    }

    // ---- the filter

    public long sample(int x) {
        if (!planThere) {
            return NONE;
        }
        if (Math.abs((long) x) > 1L << (sampleBits - 1)) {
            return OUTSIDE;
        }
        samples++;
        long v = x * (1L << fine);
        for (int j = 0; j < count; j++) {
            Place place = places[j];
            v = place.pass(rows[place.made], v, rounding);
        }
        latest = v;
        if (samples <= EXACT_SAMPLES) {
            goAlongExactly(x);
        }
        return v;
    }

    public long kept(int j, int what) {
        if (!isPlace(j)) {
            return 0;
        }
        Place place = places[j];
        switch (what) {
            case 0:
                return place.x;
            case 1:
                return place.xBefore;
            case 2:
                return place.y;
            case 3:
                return place.yBefore;
            case 4:
                return place.left;
            default:
                return 0;
        }
    }

    public long drift() {
        if (!isExactThere()) {
            return NONE;
        }
        return exactFilter.distance(latest, out, exactPoint(), count);
    }

    public int exact(int i) {
        if (!isExactThere() || i < -1 || i >= EXACT_BITS) {
            return NONE;
        }
        if (i == -1) {
            return exactFilter.isBelowZero(count) ? 1 : 0;
        }
        return exactFilter.bitOfSize(i, count);
    }

    public int quiet() {
        if (!planThere) {
            return NONE;
        }
        int before = samples;
        startSamples();
        return before;
    }

    // ---- what arguments are

    private static boolean isNumber(int v) {
        return v >= -NUMBER_AT_MOST && v <= NUMBER_AT_MOST;
    }

    private boolean isSection(int number) {
        return number >= 0 && number < count;
    }

    private boolean isPlace(int j) {
        return planThere && j >= 0 && j < count;
    }

    private static boolean isPlaceNumber(int what) {
        return what >= 0 && what < NUMBERS;
    }

    private boolean isExactThere() {
        return planThere && samples >= 1 && samples <= EXACT_SAMPLES;
    }

    // ---- quotients rounded up, of numbers that are not below 0

    private static long upByBits(long v, int bits) {
        return (v + (1L << bits) - 1) >> bits;
    }

    private static long upBy(long v, long divisor) {
        return divisor <= 0 ? 0 : (v + divisor - 1) / divisor;
    }

    // ---- stability

    /**
     * Goes down by Schur's step to degree 2, where the conditions are known
     * outright: the step after that could leave 64 bits.
     */
    private static boolean allRootsInside(long[] c, int degree) {
        int n = degree;
        while (n > 2) {
            if (Math.abs(c[n]) >= Math.abs(c[0])) {
                return false;
            }
            reduce(c, n);
            n--;
        }
        if (n == 2) {
            return quadraticIsStable(c[0], c[1], c[2]);
        }
        return n == 0 || Math.abs(c[1]) < Math.abs(c[0]);
    }

    private static void reduce(long[] c, int n) {
        long first = c[0];
        long last = c[n];
        for (int i = 0; i <= n - i; i++) {
            long low = c[i];
            long high = c[n - i];
            c[i] = first * low - last * high;
            c[n - i] = first * high - last * low;
        }
    }

    private static boolean quadraticIsStable(long c0, long c1, long c2) {
        long lead = Math.abs(c0);
        long end = c0 < 0 ? -c2 : c2;
        return Math.abs(end) < lead && Math.abs(c1) < lead + end;
    }

    // ---- making a plan

    private boolean anyIsHard() {
        for (int i = 0; i < count; i++) {
            if (rows[i].hard) {
                return true;
            }
        }
        return false;
    }

    private long firstMost() {
        return 1L << (sampleBits - 1 + fine);
    }

    private void writePlaces() {
        long most = firstMost();
        long slip = 0;
        for (int j = 0; j < count; j++) {
            int number = search.bestOrder[j];
            Section s = rows[number];
            bounds.grow(s, s.norm, s.gain, most, slip, rounding);
            bounds.settle(wordBits);
            places[j].write(number, s, bounds);
            most = bounds.mostAfter(bounds.shift);
            slip = bounds.slipAfter(bounds.shift);
        }
    }

    // ---- checking a plan

    /** The first condition, 1 to 7, that place j does not meet; 0 if it meets all. */
    private int firstWrongAt(int j) {
        long[] p = places[j].numbers;
        if (!sectionIsRight(j)) {
            return 1;
        }
        Section s = rows[(int) p[SECTION]];
        if (!sumsAreRight(p, s)) {
            return 2;
        }
        if (!normIsRight(p)) {
            return 3;
        }
        if (p[GAIN] > GAIN_AT_MOST || p[GAIN] * UNIT < s.sizesOfB * p[NORM]) {
            return 4;
        }
        long most = j == 0 ? firstMost() : places[j - 1].numbers[MOST];
        long slip = j == 0 ? 0 : places[j - 1].numbers[SLIP];
        if (!bounds.grow(s, p[NORM], p[GAIN], most, slip, rounding)) {
            return 5;
        }
        if (!shiftIsRight(p)) {
            return 6;
        }
        return j == count - 1 && fine - allShifts() != out ? 7 : 0;
    }

    private boolean sectionIsRight(int j) {
        long number = places[j].numbers[SECTION];
        if (number < 0 || number >= count) {
            return false;
        }
        for (int i = 0; i < j; i++) {
            if (places[i].numbers[SECTION] == number) {
                return false;
            }
        }
        return true;
    }

    private boolean sumsAreRight(long[] p, Section s) {
        if (p[M] < M_AT_LEAST || p[M] > M_AT_MOST) {
            return false;
        }
        if (!echoes.goTo(s, (int) p[M])) {
            return false;
        }
        // SUM is at least SUM(M), so its own limit holds for SUM(M) as well.
        return p[SUM] >= echoes.rSum && p[SUM] <= SIZE_AT_MOST
                && p[REST] >= echoes.rest() && p[REST] <= REST_AT_MOST;
    }

    private static boolean normIsRight(long[] p) {
        // The limit comes first: below it the product stays in 64 bits.
        if (p[NORM] > NORM_AT_MOST) {
            return false;
        }
        return p[NORM] * divisorOf(p[REST]) >= p[SUM] << FINER_BITS;
    }

    private static long divisorOf(long rest) {
        return (ONE - rest) >> FINER_BITS;
    }

    private boolean shiftIsRight(long[] p) {
        if (p[SHIFT] > SHIFT_AT_MOST) {
            return false;
        }
        int shift = (int) p[SHIFT];
        return p[MOST] >= bounds.mostAfter(shift) && p[SLIP] >= bounds.slipAfter(shift)
                && p[MOST] + p[SLIP] < 1L << (wordBits - 1);
    }

    private long allShifts() {
        long all = 0;
        for (int j = 0; j < count; j++) {
            all += places[j].numbers[SHIFT];
        }
        return all;
    }

    // ---- samples

    private void startSamples() {
        samples = 0;
        latest = 0;
        for (int j = 0; j < count; j++) {
            places[j].hush();
        }
        exactFilter.hush();
    }

    private void goAlongExactly(int x) {
        exactFilter.put(x, samples - 1);
        for (int j = 0; j < count; j++) {
            exactFilter.pass(j, rows[places[j].made]);
        }
    }

    /** How many limbs of what the exact filter gave lie behind the point. */
    private int exactPoint() {
        return samples + count - 1;
    }

    /** A section with its certificate. */
    private static final class Section {
        private int b0, b1, b2, a1, a2;
        private long sizesOfB, sizesOfA;
        private boolean hard;
        private int m;
        private long sum, rest, norm, gain;

        void set(int b0, int b1, int b2, int a1, int a2) {
            this.b0 = b0;
            this.b1 = b1;
            this.b2 = b2;
            this.a1 = a1;
            this.a2 = a2;
            sizesOfB = Math.abs(b0) + Math.abs(b1) + Math.abs(b2);
            sizesOfA = Math.abs(a1) + Math.abs(a2);
        }

        void certify(Echoes echoes) {
            hard = true;
            echoes.start(this);
            for (int n = 1; n <= M_AT_MOST; n++) {
                echoes.goOn();
                if (echoes.isTooGreat()) {
                    return;
                }
                if (n >= M_AT_LEAST && echoes.rest() <= REST_AT_MOST) {
                    m = n;
                    sum = echoes.rSum;
                    rest = echoes.rest();
                    hard = !boundsAreFound();
                    return;
                }
            }
        }

        private boolean boundsAreFound() {
            if (sum > SIZE_AT_MOST) {
                return false;
            }
            norm = upBy(sum << FINER_BITS, divisorOf(rest));
            if (norm > NORM_AT_MOST) {
                return false;
            }
            gain = upByBits(sizesOfB * norm, UNIT_BITS);
            return true;
        }
    }

    /** e, s, u and r of a section at one n, going on from n = 0. */
    private static final class Echoes {
        private long a1, a2;
        private long e, eBefore;
        private long s;
        private long u, uSum;
        private long r, rBefore, rSum;

        void start(Section section) {
            a1 = section.a1;
            a2 = section.a2;
            e = ONE;
            eBefore = 0;
            s = 0;
            u = ONE;
            uSum = 0;
            r = ONE;
            rBefore = 0;
            rSum = 0;
        }

        boolean isTooGreat() {
            return u > SIZE_AT_MOST;
        }

        /** To the next n; asked only while u is not too great, so that 64 bits hold it all. */
        void goOn() {
            uSum += u;
            rSum += r;
            long eNext = (-a1 * e - a2 * eBefore) >> UNIT_BITS;
            eBefore = e;
            e = eNext;
            s = 1 + (uSum >> ONE_BITS);
            long uBefore = u;
            u = Math.abs(e) + s;
            rBefore = r;
            r = u + upByBits(Math.abs(a2) * uBefore, UNIT_BITS);
        }

        /** From 0 to n; false, if some u up to there is too great. */
        boolean goTo(Section section, int n) {
            start(section);
            for (int i = 0; i < n && !isTooGreat(); i++) {
                goOn();
            }
            return !isTooGreat();
        }

        long rest() {
            return Math.max(r, rBefore);
        }
    }

    /** MOST' and SLIP' of one place, and the SHIFT that brings them into a word. */
    private static final class Bounds {
        private long most, slip;
        private int shift;

        /** Whether MOST' and SLIP', which are kept, are GOOD. */
        boolean grow(Section s, long norm, long gain, long mostIn, long slipIn, int way) {
            long t = upByBits(gain, FINER_BITS);
            most = times(mostIn, t);
            slip = times(slipIn, t) + upByBits(norm, way == NEAREST ? ONE_BITS + 1 : ONE_BITS);
            if (most + slip > SIZE_AT_MOST) {
                return false;
            }
            // Each product is below 2^63; the first is looked at alone, since their sum need not be.
            long fromX = s.sizesOfB * (mostIn + slipIn);
            long fromY = s.sizesOfA * (most + slip);
            return fromX <= WORD_AT_MOST && fromX + fromY + 32768 <= WORD_AT_MOST;
        }

        /** v t / 65536, rounded up; where that is above 2^46, something above it will do. */
        private static long times(long v, long t) {
            if (t <= 0) {
                return 0;
            }
            if (v > WORD_AT_MOST / t) {
                return SIZE_AT_MOST + 1;
            }
            return upByBits(v * t, FINER_BITS);
        }

        /** Finds the least SHIFT for words of so many bits; false, if there is none. */
        boolean settle(int bits) {
            long limit = 1L << (bits - 1);
            for (shift = 0; shift <= SHIFT_AT_MOST; shift++) {
                if (mostAfter(shift) + slipAfter(shift) < limit) {
                    return true;
                }
            }
            return false;
        }

        long mostAfter(int by) {
            return upByBits(most, by);
        }

        long slipAfter(int by) {
            return upByBits(slip, by) + (by == 0 ? 0 : 1);
        }
    }

    /** Tries all orders with all FINE bits, and keeps what is best. */
    private static final class Search {
        private final int[] order = new int[SECTIONS_AT_MOST];
        private final int[] bestOrder = new int[SECTIONS_AT_MOST];
        /** Behind so many places of the order, by FINE; SHIFTS of all places, or NONE: not good. */
        private final long[][] most = new long[SECTIONS_AT_MOST + 1][FINE_AT_MOST + 1];
        private final long[][] slip = new long[SECTIONS_AT_MOST + 1][FINE_AT_MOST + 1];
        private final int[][] shifts = new int[SECTIONS_AT_MOST + 1][FINE_AT_MOST + 1];
        private final Bounds bounds = new Bounds();
        private int count, w, way, topFine;
        private int good, bestOut, bestFine;
        private long bestSlip;

        void start(int count, int w, int k, int way) {
            this.count = count;
            this.w = w;
            this.way = way;
            topFine = Math.min(FINE_AT_MOST, w - 1 - k);
            good = 0;
            bestOut = NONE;
            bestFine = 0;
            bestSlip = 0;
            for (int i = 0; i < count; i++) {
                order[i] = i;
            }
            for (int f = 0; f <= topFine; f++) {
                most[0][f] = 1L << (k - 1 + f);
                slip[0][f] = 0;
                shifts[0][f] = 0;
            }
        }

        void tryAll(Section[] rows) {
            int changed = 0;
            for (int tried = 0; tried < ORDERS_AT_MOST && changed >= 0; tried++) {
                // What lies before the first place that changed is as in the order before.
                for (int j = changed; j < count; j++) {
                    extend(j, rows[order[j]]);
                }
                judge();
                changed = nextOrder();
            }
        }

        private void extend(int j, Section s) {
            for (int f = 0; f <= topFine; f++) {
                shifts[j + 1][f] = NONE;
                if (shifts[j][f] != NONE
                        && bounds.grow(s, s.norm, s.gain, most[j][f], slip[j][f], way)
                        && bounds.settle(w)) {
                    most[j + 1][f] = bounds.mostAfter(bounds.shift);
                    slip[j + 1][f] = bounds.slipAfter(bounds.shift);
                    shifts[j + 1][f] = shifts[j][f] + bounds.shift;
                }
            }
        }

        private void judge() {
            for (int f = topFine; f >= 0; f--) {
                int out = shifts[count][f] == NONE ? NONE : f - shifts[count][f];
                if (out >= 0) {
                    good++;
                    compare(f, out, slip[count][f]);
                }
            }
        }

        private void compare(int f, int out, long lastSlip) {
            if (out < bestOut || (out == bestOut && lastSlip >= bestSlip)) {
                return;
            }
            bestOut = out;
            bestFine = f;
            bestSlip = lastSlip;
            System.arraycopy(order, 0, bestOrder, 0, count);
        }

        /** The next order of the same numbers: the first place that changed, or NONE. */
        private int nextOrder() {
            int i = count - 2;
            while (i >= 0 && order[i] > order[i + 1]) {
                i--;
            }
            if (i < 0) {
                return NONE;
            }
            int j = count - 1;
            while (j > i + 1 && order[j] < order[i]) {
                j--;
            }
            swap(i, j);
            for (int low = i + 1, high = count - 1; low < high; low++, high--) {
                swap(low, high);
            }
            return i;
        }

        private void swap(int i, int j) {
            int v = order[i];
            order[i] = order[j];
            order[j] = v;
        }
    }

    /** A place of the plan: its numbers, and what its section keeps of the samples. */
    private static final class Place {
        /** These can be forged; made and shift are as they were. */
        private final long[] numbers = new long[NUMBERS];
        private int made, shift;
        private long x, xBefore, y, yBefore, left;

        void write(int number, Section s, Bounds bounds) {
            made = number;
            shift = bounds.shift;
            numbers[SECTION] = number;
            numbers[M] = s.m;
            numbers[SUM] = s.sum;
            numbers[REST] = s.rest;
            numbers[NORM] = s.norm;
            numbers[GAIN] = s.gain;
            numbers[SHIFT] = shift;
            numbers[MOST] = bounds.mostAfter(shift);
            numbers[SLIP] = bounds.slipAfter(shift);
        }

        void hush() {
            x = 0;
            xBefore = 0;
            y = 0;
            yBefore = 0;
            left = 0;
        }

        long pass(Section s, long in, int way) {
            long a = s.b0 * in + s.b1 * x + s.b2 * xBefore - s.a1 * y - s.a2 * yBefore;
            if (way == CARRIED) {
                a += left;
            } else if (way == NEAREST) {
                a += UNIT / 2;
            }
            xBefore = x;
            x = in;
            yBefore = y;
            y = a >> UNIT_BITS;
            left = a - UNIT * y;
            return y >> shift;
        }
    }

    /**
     * A row of exact values at the latest three samples. With n samples, each is
     * times 2^14 for every sample and every section before it, so that a division
     * by 16384 is a step of one limb; below 0 it is two's complement.
     */
    private static final class Signal {
        private int[] now = new int[LIMBS];
        private int[] before = new int[LIMBS];
        private int[] earlier = new int[LIMBS];

        void hush() {
            Arrays.fill(now, 0);
            Arrays.fill(before, 0);
            Arrays.fill(earlier, 0);
        }

        void turn() {
            int[] free = earlier;
            earlier = before;
            before = now;
            now = free;
        }
    }

    /** The exact filter, over numbers of LIMBS limbs. */
    private static final class ExactFilter {
        /** What goes in, and then what comes of each place. */
        private final Signal[] signals = new Signal[SECTIONS_AT_MOST + 1];
        private final int[] size = new int[LIMBS];

        ExactFilter() {
            for (int i = 0; i <= SECTIONS_AT_MOST; i++) {
                signals[i] = new Signal();
            }
        }

        void hush() {
            for (int i = 0; i <= SECTIONS_AT_MOST; i++) {
                signals[i].hush();
            }
        }

        void put(long x, int point) {
            Signal in = signals[0];
            in.turn();
            for (int i = 0; i < LIMBS; i++) {
                in.now[i] = limbOf(x, i - point);
            }
        }

        /** What comes of place j, from what came of the place before. */
        void pass(int j, Section s) {
            Signal in = signals[j];
            Signal to = signals[j + 1];
            to.turn();
            long carry = 0;
            for (int i = 0; i < LIMBS; i++) {
                long t = carry + (long) s.b0 * in.now[i] - (long) s.a1 * to.before[i];
                if (i >= 1) {
                    t += (long) s.b1 * in.before[i - 1] - (long) s.a2 * to.earlier[i - 1];
                }
                if (i >= 2) {
                    t += (long) s.b2 * in.earlier[i - 2];
                }
                to.now[i] = (int) (t & LIMB_MASK);
                carry = t >> UNIT_BITS;
            }
        }

        boolean isBelowZero(int places) {
            return hasSign(signals[places].now);
        }

        int bitOfSize(int i, int places) {
            System.arraycopy(signals[places].now, 0, size, 0, LIMBS);
            dropSign(size);
            return (size[i / UNIT_BITS] >> (i % UNIT_BITS)) & 1;
        }

        /** The size, rounded down, of what came out less the exact value times 2^out. */
        long distance(long cameOut, int out, int point, int places) {
            int[] now = signals[places].now;
            long carry = 0;
            for (int i = 0; i < LIMBS; i++) {
                long t = carry + limbOf(cameOut, i - point) - ((long) now[i] << out);
                size[i] = (int) (t & LIMB_MASK);
                carry = t >> UNIT_BITS;
            }
            dropSign(size);
            long whole = 0;
            for (int i = 0; i < 4 && point + i < LIMBS; i++) {
                // SLIP is below 2^46, so four limbs hold it.
                whole += (long) size[point + i] << (UNIT_BITS * i);
            }
            return whole;
        }

        private static int limbOf(long v, int i) {
            return i < 0 ? 0 : (int) ((v >> Math.min(63, UNIT_BITS * i)) & LIMB_MASK);
        }

        private static boolean hasSign(int[] limbs) {
            return limbs[LIMBS - 1] >= UNIT / 2;
        }

        private static void dropSign(int[] limbs) {
            if (!hasSign(limbs)) {
                return;
            }
            long carry = 0;
            for (int i = 0; i < LIMBS; i++) {
                long t = carry - limbs[i];
                limbs[i] = (int) (t & LIMB_MASK);
                carry = t >> UNIT_BITS;
            }
        }
    }
}
