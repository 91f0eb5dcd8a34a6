/** Each promise of the document in turn, with ordinary inputs; the edges stand in the BoundaryTests. */
public final class PromiseTests {
    private static final long ONE = 1L << 32;

    public static void main(String[] args) {
        newObject();
        section();
        clearAndSections();
        isStable();
        about();
        echo();
        plan();
        planned();
        forge();
        check();
        told();
        sample();
        kept();
        drift();
        exact();
        quiet();
        Due.end();
    }

    private static void newObject() {
        Due.says("1");
        Bench x = new Bench();
        Due.due("sections()", x.sections(), 0);
        Due.due("told(4)", x.told(4), -1);
        Bench y = new Bench();
        y.section(16384, 0, 0, 0, 0);
        y.plan(30, 10, 0);
        Due.due("another object's sections", x.sections(), 0);
        Due.due("another object's plan", x.told(4), -1);
    }

    private static void section() {
        Due.says("2");
        Bench x = new Bench();
        Due.due("the first", x.section(16384, 0, 0, -16384, 8192), 0);
        Due.due("the second", x.section(8192, 16384, 8192, 0, 0), 1);
        Due.due("the same again", x.section(8192, 16384, 8192, 0, 0), 2);
        Due.due("one that is not stable", x.section(1, 2, 3, 20000, 30000), 3);
        Due.due("0s", x.section(0, 0, 0, 0, 0), 4);
        Due.due("outside", x.section(40000, 0, 0, 0, 0), -2);
        Due.due("the sixth", x.section(1, 1, 1, 1, 1), 5);
        Due.due("the seventh", x.section(1, 1, 1, 1, 1), -3);
    }

    private static void clearAndSections() {
        Bench x = Due.two();
        Due.says("4");
        Due.due("sections()", x.sections(), 2);
        Due.says("3");
        Due.due("clear()", x.clear(), 2);
        Due.due("sections()", x.sections(), 0);
        Due.due("no plan", x.told(0), -1);
        Due.due("from 0 on", x.section(1, 1, 1, 1, 1), 0);
        Due.due("the new one's numbers", x.echo(0, 1, 0), -262144);
    }

    private static void isStable() {
        Due.says("5");
        Bench x = new Bench();
        Due.due("z - 0.5", x.isStable(1, 2, -1, 0, 0, 0), 1);
        Due.due("z - 2", x.isStable(1, 1, -2, 0, 0, 0), 0);
        Due.due("roots 0.5 and -0.25", x.isStable(2, 8, -2, -1, 0, 0), 1);
        Due.due("roots 0.5 and 2", x.isStable(2, 2, -5, 2, 0, 0), 0);
        Due.due("(z - 0.5)^3", x.isStable(3, 8, -12, 6, -1, 0), 1);
        Due.due("(z - 0.5)^2 (z - 2)", x.isStable(3, 4, -12, 9, -2, 0), 0);
        Due.due("(z - 0.5)^4", x.isStable(4, 16, -32, 24, -8, 1), 1);
        Due.due("(z^2 + 4) (z^2 + 0.25)", x.isStable(4, 4, 0, 17, 0, 4), 0);
        Due.due("5 4 3 2 1", x.isStable(4, 5, 4, 3, 2, 1), 1);
    }

    private static void about() {
        Due.says("6");
        Bench x = Due.of(16384, 0, 0, -16384, 8192, -1, 2, -3, 0, 0, 16384, 0, 0, 32767, 16383);
        long[] first = {1, 0, 4, 16106127371L, 1073741829L, 21475273411L, 21475273411L};
        long[] second = {1, 0, 2, ONE + 2, 2, 4295032836L, (6 * 4295032836L + 16383) / 16384};
        long[] third = {0, 1, -1, -1, -1, -1, -1};
        for (int what = 0; what <= 6; what++) {
            Due.due("about(0, " + what + ")", x.about(0, what), first[what]);
            Due.due("about(1, " + what + ")", x.about(1, what), second[what]);
            Due.due("about(2, " + what + ")", x.about(2, what), third[what]);
        }
    }

    private static void echo() {
        Due.says("7");
        Bench x = Due.of(0, 0, 0, 0, 0, 0, 0, 0, -16384, 8192);
        // The echoes of 1, 1, 0.5, 0, -0.25, -0.25, ..
        long[] e = {ONE, ONE, ONE / 2, 0, -ONE / 4, -ONE / 4, -ONE / 8};
        long[] s = {0, 2, 3, 3, 3, 3, 4};
        for (int n = 0; n < e.length; n++) {
            long u = Math.abs(e[n]) + s[n];
            long before = n == 0 ? 0 : Math.abs(e[n - 1]) + s[n - 1];
            Due.due("e(" + n + ")", x.echo(1, n, 0), e[n]);
            Due.due("s(" + n + ")", x.echo(1, n, 1), s[n]);
            Due.due("u(" + n + ")", x.echo(1, n, 2), u);
            Due.due("r(" + n + ")", x.echo(1, n, 3), u + (before + 1) / 2);
        }
        Due.due("of the other one", x.echo(0, 2, 2), 2);
    }

    private static void plan() {
        Due.says("8");
        Bench x = Due.of(16384, 0, 0, -16384, 8192, 8192, 16384, 8192, 0, 0);
        Due.due("plan(32, 16, 1)", x.plan(32, 16, 1), 12);
        Due.due("plan(40, 16, 0)", x.plan(40, 16, 0), 20);
        Due.due("plan(16, 16, 0)", x.plan(16, 16, 0), -1);
        Due.due("no plan any more", x.told(1), -1);
        Due.due("plan(32, 16, 2)", x.plan(32, 16, 2), 12);
        Due.due("plan(50, 16, 0)", x.plan(50, 16, 0), -2);
        Due.due("the plan stays", x.told(3), 2);
    }

    private static void planned() {
        Due.says("9");
        Bench x = Due.two();
        long[][] want = {
            {0, 4, 16106127371L, 1073741829L, 21475273411L, 21475273411L, 2, 1342205952L, 3},
            {1, 2, ONE + 2, 2, 4295032836L, 8590065672L, 1, 1342236673L, 6}};
        for (int j = 0; j < 2; j++) {
            for (int what = 0; what <= 8; what++) Due.due("planned(" + j + ", " + what + ")", x.planned(j, what), want[j][what]);
        }
    }

    private static void forge() {
        Due.says("10");
        Bench x = Due.two();
        for (int j = 0; j < 2; j++) {
            for (int what = 0; what <= 8; what++) Due.due("forge", x.forge(j, what, 100 * j + what), 1);
        }
        for (int j = 0; j < 2; j++) {
            for (int what = 0; what <= 8; what++) Due.due("forged", x.planned(j, what), 100 * j + what);
        }
        Due.due("the filter", x.sample(32768), 67108864);
        Due.due("OUT stays", x.told(4), 12);
    }

    private static void check() {
        Due.says("11");
        int[][] which = {{0, 11}, {1, 12}, {2, 12}, {3, 12}, {4, 13}, {5, 14}, {6, 16}, {7, 16}, {8, 16}};
        for (int[] w : which) {
            Bench x = Due.two();
            Due.due("check()", x.check(), 0);
            long old = x.planned(0, w[0]);
            x.forge(0, w[0], w[0] == 0 ? 7 : 0);
            Due.due("check() with number " + w[0] + " forged", x.check(), w[1]);
            x.forge(0, w[0], old);
            Due.due("put back", x.check(), 0);
        }
    }

    private static void told() {
        Due.says("12");
        Bench x = Due.two();
        x.sample(1);
        x.sample(40000);
        int[] want = {15, 32, 16, 1, 12, 1, 32};
        for (int what = 0; what <= 6; what++) Due.due("told(" + what + ")", x.told(what), want[what]);
    }

    private static void sample() {
        Due.says("13");
        Bench x = Due.two();
        Due.due("sample(-3)", x.sample(-3), -6144);
        Due.due("sample(-3)", x.sample(-3), -24576);
        Due.due("sample(0)", x.sample(0), -39936);
        Due.due("sample(40000)", x.sample(40000), -2);
        x.clear();
        Due.due("no plan", x.sample(0), -1);
    }

    private static void kept() {
        Due.says("14");
        Bench x = Due.two();
        x.sample(7);
        x.sample(-5);
        x.sample(100000);
        long[][] want = {{-5 << 15, 7 << 15, 2 << 15, 7 << 15, 0}, {2 << 13, 7 << 13, 8 << 13, 7 << 12, 0}};
        for (int j = 0; j < 2; j++) {
            for (int what = 0; what <= 4; what++) Due.due("kept(" + j + ", " + what + ")", x.kept(j, what), want[j][what]);
        }
    }

    private static void drift() {
        Due.says("15");
        // y = x + 7 / 8 of the y before, always down, so that it drifts away.
        Bench x = Due.of(16384, 0, 0, -14336, 0);
        Due.due("OUT", x.plan(47, 2, 0), 24);
        long[] want = {0, 0, 0, 0, 0, 0, 0, 0, 0, 0, 0, 1, 1, 1, 1, 1, 2, 2, 2, 2, 2, 2, 2, 2, 2, 2, 1, 2, 2, 2, 3, 2};
        for (int i = 0; i < 32; i++) {
            x.sample(i == 0 ? 1 : 0);
            Due.due("drift " + i, x.drift(), want[i]);
        }
    }

    private static void exact() {
        Due.says("16");
        Bench x = Due.of(3, 5, 0, 0, 0);
        x.plan(40, 10, 0);
        // 3 times -7 over 2^14, and times 2^14: 21 = 10101, below 0.
        x.sample(-7);
        Due.due("below 0", x.exact(-1), 1);
        for (int i = 0; i < 8; i++) Due.due("exact(" + i + ")", x.exact(i), 21 >> i & 1);
    }

    private static void quiet() {
        Due.says("17");
        Bench x = Due.two();
        long first = x.sample(1234);
        long second = x.sample(-4321);
        Due.due("quiet()", x.quiet(), 2);
        Due.due("told(5)", x.told(5), 0);
        Due.due("the same again", x.sample(1234), first);
        Due.due("and again", x.sample(-4321), second);
        Due.due("the plan stays", x.check(), 0);
    }
}
