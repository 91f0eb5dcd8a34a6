import java.util.Random;

/** Runs of calls, drawn by a fixed seed, each answer compared with the model's. */
public final class ModelTests {
    private static final int[] EDGES = {Integer.MIN_VALUE, -32768, -32767, -16384, -3, -2, -1, 0, 1, 2, 3, 5, 6, 7, 8, 9,
            12, 799, 800, 1000, 1001, 16384, 32767, 32768, Integer.MAX_VALUE};
    private static final long[] FORGED = {-1, 0, 1, 2, 3, 12, 13, 999, 1000, 1001, 1L << 31, (1L << 31) + 1, 1L << 44,
            (1L << 44) + 1, (1L << 46) - 1, 1L << 46, (1L << 46) + 1, 1L << 48, (1L << 48) + 1, 1L << 50, (1L << 50) + 1,
            Long.MIN_VALUE, Long.MAX_VALUE};

    /** No step of a run makes more calls than this. */
    private static final int STEP = 220;

    private final Random random;
    private final StringBuilder trail = new StringBuilder();
    private Bench bench = new Bench();
    private Model model = new Model();
    private int wrong = 0;
    private int plans = 0, noPlans = 0, hard = 0;
    private final int[] checks = new int[10];

    private ModelTests(long seed) {
        random = new Random(seed);
    }

    public static void main(String[] args) {
        long seed = args.length > 0 ? Long.parseLong(args[0]) : 1;
        int runs = args.length > 1 ? Integer.parseInt(args[1]) : 500;
        ModelTests tests = new ModelTests(seed);
        tests.stability();
        for (int run = 0; run < runs; run++) tests.run();
        System.out.println("plans " + tests.plans + ", none " + tests.noPlans + ", hard " + tests.hard
                + ", checks by answer " + java.util.Arrays.toString(tests.checks));
        System.out.println(tests.wrong == 0 ? "all answers are the model's" : tests.wrong + " answers are not the model's");
        if (tests.wrong != 0) System.exit(1);
    }

    private void same(String call, long got, long want) {
        trail.append(call).append(" = ").append(got).append('\n');
        if (got == want) return;
        wrong++;
        if (wrong <= 5) System.out.println("wrong, due is " + want + ":\n" + trail);
    }

    private int in(int low, int high) {
        return low + random.nextInt(high - low + 1);
    }

    private int edge() {
        return EDGES[random.nextInt(EDGES.length)];
    }

    private boolean seldom() {
        return random.nextInt(25) == 0;
    }

    private int index(int low, int high) {
        return seldom() ? edge() : in(low, high);
    }

    private void stability() {
        for (int i = 0; i < 60000; i++) {
            int most = i % 3 == 0 ? 3 : i % 3 == 1 ? 1000 : 12;
            int degree = i % 100 == 0 ? edge() : in(0, 4);
            int[] c = new int[5];
            for (int j = 0; j < 5; j++) c[j] = in(-most, most);
            // A great first number makes roots inside likely.
            if (i % 2 == 0) c[0] = in(0, 1) == 0 ? most : -most;
            if (i % 50 == 0) c[in(0, 4)] = in(0, 1) == 0 ? 1001 : -1001;
            trail.setLength(0);
            if (bench.left() == 0) bench = new Bench();
            same("isStable(" + degree + ", " + java.util.Arrays.toString(c) + ")",
                    bench.isStable(degree, c[0], c[1], c[2], c[3], c[4]), model.isStable(degree, c));
        }
    }

    private int clip(double v) {
        return (int) Math.max(-32767, Math.min(32767, Math.rint(v)));
    }

    private int[] poles() {
        double radius = random.nextInt(3) == 0 ? 0.9 + 0.1 * random.nextDouble() : random.nextDouble();
        double angle = Math.PI * random.nextDouble();
        if (random.nextInt(3) == 0) {
            double other = random.nextDouble() * 2 - 1;
            return new int[] {clip(-16384 * (radius + other)), clip(16384 * radius * other)};
        }
        return new int[] {clip(-32768 * radius * Math.cos(angle)), clip(16384 * radius * radius)};
    }

    private int[] numbers(boolean wild) {
        int[] a = poles();
        int most = new int[] {3, 2000, 16384, 32767}[random.nextInt(4)];
        int[] s = {in(-most, most), in(-most, most), in(-most, most), a[0], a[1]};
        if (random.nextInt(8) == 0) for (int i = 0; i < 3; i++) s[i] = 32767;
        if (wild) s[3] = in(-32767, 32767);
        if (wild) s[4] = in(-32767, 32767);
        if (seldom()) s[in(0, 4)] = edge();
        return s;
    }

    private void section(boolean wild) {
        int[] s = numbers(wild);
        same("section" + java.util.Arrays.toString(s), bench.section(s[0], s[1], s[2], s[3], s[4]), model.section(s));
        int k = model.sections.size() - 1;
        for (int what = -1; what <= 7; what++) same("about(" + k + ", " + what + ")", bench.about(k, what), model.about(k, what));
        if (k >= 0 && model.about(k, 1) == 1) {
            hard++;
            // Most runs go on without a HARD section, or there would be no plans.
            if (!wild && random.nextInt(4) != 0) {
                same("clear()", bench.clear(), model.clear());
            }
        }
    }

    private void echo() {
        int k = index(0, 5), n = index(0, random.nextBoolean() ? 40 : 1000), what = index(0, 3);
        same("echo(" + k + ", " + n + ", " + what + ")", bench.echo(k, n, what), model.echo(k, n, what));
    }

    private void plan() {
        // Six sections by the model are dear.
        if (model.sections.size() >= 5 && random.nextInt(4) != 0) return;
        int w = index(16, 47), k = index(2, random.nextBoolean() ? 24 : 12), way = index(0, 2);
        if (random.nextInt(3) == 0) w = 47 - random.nextInt(3);
        int got = bench.plan(w, k, way);
        same("plan(" + w + ", " + k + ", " + way + ")", got, model.plan(w, k, way));
        if (got >= 0) plans++;
        else noPlans++;
        told();
        all();
        if (got >= 0 && !model.sections.isEmpty()) same("check()", bench.check(), 0);
    }

    private void told() {
        for (int what = -1; what <= 7; what++) same("told(" + what + ")", bench.told(what), model.told(what));
    }

    private void all() {
        for (int j = -1; j <= model.sections.size(); j++) {
            for (int what = -1; what <= 9; what++) same("planned(" + j + ", " + what + ")", bench.planned(j, what), model.planned(j, what));
        }
    }

    private void forge() {
        int j = index(0, Math.max(0, model.sections.size() - 1)), what = index(0, 8);
        long v = FORGED[random.nextInt(FORGED.length)];
        long old = model.planned(j, what);
        if (random.nextInt(4) != 0 && old >= 0) v = old + (random.nextBoolean() ? in(-2, 2) : (long) (old * 0.2 * random.nextGaussian()));
        same("forge(" + j + ", " + what + ", " + v + ")", bench.forge(j, what, v), model.forge(j, what, v));
        int checked = bench.check();
        same("check()", checked, model.check());
        if (checked >= 0) checks[checked % 10]++;
        if (old >= 0 && random.nextInt(4) != 0) {
            same("forge(" + j + ", " + what + ", " + old + ")", bench.forge(j, what, old), model.forge(j, what, old));
        }
    }

    private void samples() {
        int most = model.plan == null ? 5 : 1 << (model.plan.k - 1);
        int style = random.nextInt(3);
        for (int i = in(1, 18); i > 0; i--) {
            int x = style == 0 ? (random.nextBoolean() ? most : -most) : in(-most, most);
            if (style == 2) x = in(-2, 2);
            if (seldom()) x = random.nextBoolean() ? most + 1 : -most - 1;
            if (seldom()) x = edge();
            same("sample(" + x + ")", bench.sample(x), model.sample(x));
            int j = in(-1, model.sections.size());
            for (int what = -1; what <= 5; what++) same("kept(" + j + ", " + what + ")", bench.kept(j, what), model.kept(j, what));
            same("drift()", bench.drift(), model.drift());
        }
        // Most bits that are 1 lie about the power of 2 that the value is times.
        int from = model.plan == null ? 0 : 14 * (model.plan.samples.size() + model.sections.size()) - 40;
        for (int i = 0; i < 30; i++) {
            int bit = random.nextBoolean() ? index(-1, 799) : in(from, from + 60);
            same("exact(" + bit + ")", bench.exact(bit), model.exact(bit));
        }
        same("told(5)", bench.told(5), model.told(5));
    }

    /** Sections that make much of what was rounded before them, so that drifts are great. */
    private void greatGains() {
        int[] s = {in(15000, 32767), in(15000, 32767), in(15000, 32767), in(-25000, -20000), 0};
        s[4] = s[3] / 128 * (s[3] / 128) / 4;
        for (int i = in(2, 6); i > 0; i--) {
            same("section" + java.util.Arrays.toString(s), bench.section(s), model.section(s));
        }
        same("plan(47, 2, 0)", bench.plan(47, 2, 0), model.plan(47, 2, 0));
        samples();
    }

    private void run() {
        bench = new Bench();
        model = new Model();
        trail.setLength(0);
        boolean wild = random.nextInt(10) == 0;
        int wanted = in(0, 6);
        if (random.nextInt(20) == 0) greatGains();
        else for (int i = 0; i < wanted; i++) section(wild);
        while (bench.left() > STEP) {
            switch (random.nextInt(12)) {
                case 0: section(wild); break;
                case 1: if (seldom()) same("clear()", bench.clear(), model.clear()); break;
                case 2: echo(); break;
                case 3: same("quiet()", bench.quiet(), model.quiet()); break;
                case 4: case 5: plan(); break;
                case 6: case 7: case 8: for (int i = 0; i < 12; i++) forge(); break;
                default: samples(); break;
            }
            same("sections()", bench.sections(), model.sections.size());
        }
    }
}
