import java.util.function.Supplier;
import java.util.function.ToLongFunction;

/** What the tests share: answers that are due, states that have to stay, and some benches to begin with. */
final class Due {
    private static int wrong = 0;
    private static String sentence = "";

    private Due() {
    }

    /** The sentence of the document that the answers from here on are due by. */
    static void says(String words) {
        sentence = words;
    }

    static void due(String call, long got, long want) {
        if (got == want) return;
        wrong++;
        System.out.println(sentence + ": " + call + " answered " + got + ", due is " + want);
    }

    private static void same(String call, String got, String want) {
        if (got.equals(want)) return;
        wrong++;
        System.out.println(sentence + ": " + call + "\n  left    " + got + "\n  due is  " + want);
    }

    /** The end of a test: exit code 1 if an answer was not as due. */
    static void end() {
        System.out.println(wrong == 0 ? "all answers are as due" : wrong + " answers are not as due");
        if (wrong != 0) System.exit(1);
    }

    /**
     * The call answers so and leaves all as it was: a twin that never got it
     * answers the same, and goes on to answer the same.
     */
    static void leaves(String call, Supplier<Bench> maker, ToLongFunction<Bench> asked, long want) {
        Bench got = maker.get(), twin = maker.get();
        due(call, asked.applyAsLong(got), want);
        same(call, state(got), state(twin));
        for (int x = -1; x <= 1; x++) due(call + ", then sample(" + x + ")", got.sample(x), twin.sample(x));
        same(call + ", then samples", latest(got), latest(twin));
        due(call + ", then quiet()", got.quiet(), twin.quiet());
        due(call + ", then section(1, 1, 1, 1, 1)", got.section(1, 1, 1, 1, 1), twin.section(1, 1, 1, 1, 1));
    }

    /** All that can be asked of sections and plan. */
    static String state(Bench x) {
        StringBuilder all = new StringBuilder();
        int count = x.sections();
        all.append("sections ").append(count);
        for (int k = 0; k < count; k++) {
            for (int what = 0; what <= 6; what++) all.append(' ').append(x.about(k, what));
        }
        all.append(" plan");
        for (int what = 0; what <= 6; what++) all.append(' ').append(x.told(what));
        for (int j = 0; j < Math.max(1, count); j++) {
            for (int what = 0; what <= 8; what++) all.append(' ').append(x.planned(j, what));
        }
        return all.append(" check ").append(x.check()).append(latest(x)).toString();
    }

    /** All that can be asked of the latest sample. */
    private static String latest(Bench x) {
        StringBuilder all = new StringBuilder(" kept");
        for (int j = 0; j < 6; j++) {
            for (int what = 0; what <= 4; what++) all.append(' ').append(x.kept(j, what));
        }
        all.append(" drift ").append(x.drift()).append(" exact");
        for (int i = -1; i <= 70; i += 5) all.append(' ').append(x.exact(i));
        return all.toString();
    }

    static Bench of(int... numbers) {
        Bench x = new Bench();
        for (int i = 0; i + 5 <= numbers.length; i += 5) {
            x.section(numbers[i], numbers[i + 1], numbers[i + 2], numbers[i + 3], numbers[i + 4]);
        }
        return x;
    }

    static Bench empty() {
        return new Bench();
    }

    /** One section that gives back what it gets. */
    static Bench same() {
        return of(16384, 0, 0, 0, 0);
    }

    /** Two sections with a plan: FINE 15, SHIFTS 2 and 1, OUT 12. */
    static Bench two() {
        Bench x = of(16384, 0, 0, -16384, 8192, 8192, 16384, 8192, 0, 0);
        x.plan(32, 16, 1);
        return x;
    }

    /** The same in use: three samples, and a forged number. */
    static Bench used() {
        Bench x = two();
        x.sample(30000);
        x.sample(-12345);
        x.sample(7);
        x.forge(1, 5, 12);
        return x;
    }

    /** Two sections and no plan, one of them HARD. */
    static Bench hard() {
        return of(16384, 0, 0, -16384, 8192, 1, 1, 1, 0, 16384);
    }

    /** Six sections with a plan and two samples. */
    static Bench full() {
        Bench x = new Bench();
        for (int i = 0; i < 6; i++) x.section(16384 - i, i, 0, 1000 * i, -500 * i);
        x.plan(40, 12, 2);
        x.sample(2047);
        x.sample(-2048);
        return x;
    }
}
