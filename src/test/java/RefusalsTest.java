import java.util.List;

/**
 * Wrong inputs of the promises 2 to 19: which exception is thrown, the one named first if several apply,
 * and that a call that throws changes nothing.
 */
public final class RefusalsTest {
    private static final Checks checks = new Checks("RefusalsTest");
    private static final int FAR = Integer.MAX_VALUE;
    private static final int LOW = Integer.MIN_VALUE;

    interface Wrong {
        long on(Gravimere land);
    }

    public static void main(String[] args) {
        testCells();
        testBody();
        testTideAndMonths();
        testNeedles();
        testBenchmarksAndLines();
        testReleases();
        testFullOnes();
        checks.finish();
    }

    private static void refused(Class<? extends RuntimeException> due, String call, Wrong wrong) {
        refusedBy(someLand(), due, call + " on some land", wrong);
    }

    private static void refusedWhenFull(Class<? extends RuntimeException> due, String call, Wrong wrong) {
        refusedBy(fullLand(), due, call + " on a full land", wrong);
    }

    private static void refusedBy(Gravimere land, Class<? extends RuntimeException> due, String call, Wrong wrong) {
        List<String> before = Checks.stateOf(land);
        checks.dueThrow(call, due, () -> wrong.on(land));
        checks.due("the state after " + call, Checks.stateOf(land), before);
    }

    /** 2 mirrors and 1 spring, 4 benchmarks, 4 lines, 3 releases (two of one month), month 8. */
    private static Gravimere someLand() {
        Gravimere land = new Gravimere();
        land.mass(1, 2, 0, 1001);
        land.mass(1, 2, 2, 77);
        land.water(6, 5, 31);
        land.release();
        land.tide(300, 12);
        land.needle(Gravimere.MIRROR, -9);
        land.pass(3);
        land.needle(Gravimere.SPRING, 4);
        land.mass(7, 0, 1, 5000);
        land.release();
        land.release();
        land.pass(5);
        land.needle(Gravimere.MIRROR, 8);
        for (int number = 0; number < 4; number++) {
            land.benchmark();
        }
        land.line(0, 1, 10, 2);
        land.line(2, 1, 10, 2);
        land.line(2, 0, 900, 9);
        land.line(1, 0, 10, 3);
        return land;
    }

    /** As many of all as there may be, in the last month. */
    private static Gravimere fullLand() {
        Gravimere land = new Gravimere();
        for (int number = 0; number < 6; number++) {
            land.needle(number % 2, 10 * number);
        }
        for (int number = 0; number < 10; number++) {
            land.benchmark();
        }
        for (int number = 0; number < 24; number++) {
            land.line(number % 9, number % 9 + 1, 10 * number, 50 - number);
        }
        for (int round = 0; round < 25; round++) {
            if (round >= 13) {
                land.mass(round % 8, 3, round % 3, 1000L * round);
                land.release();
            }
            land.pass(120);
        }
        return land;
    }

    private static void testCells() {
        int[][] cells = {{8, 0}, {-1, 0}, {0, 8}, {0, -1}, {8, 8}, {-1, -1}, {FAR, 0}, {LOW, 7}, {7, FAR}, {0, LOW}};
        for (int[] cell : cells) {
            int x = cell[0];
            int y = cell[1];
            String at = " at " + x + ", " + y;
            refused(Checks.INDEX, "mass" + at, land -> land.mass(x, y, 0, 1));
            refused(Checks.INDEX, "a wrong mass" + at, land -> land.mass(x, y, 0, -1));
            refused(Checks.INDEX, "water" + at, land -> land.water(x, y, 1));
            refused(Checks.INDEX, "a wrong water" + at, land -> land.water(x, y, -1));
            refused(Checks.INDEX, "pull" + at, land -> land.pull(x, y));
            refused(Checks.INDEX, "pullAnew" + at, land -> land.pullAnew(x, y));
            refused(Checks.INDEX, "gap" + at, land -> land.gap(x, y));
            refused(Checks.INDEX, "read" + at, land -> land.read(0, x, y));
            refused(Checks.INDEX, "trend" + at, land -> land.trend(0, 1, x, y));
            refused(Checks.INDEX, "trend of one month" + at, land -> land.trend(1, 2, x, y));
        }
        for (int row = 0; row < 8; row++) {
            int y = row;
            refused(Checks.INDEX, "gap at 7, " + y, land -> land.gap(7, y));
        }
    }

    private static void testBody() {
        for (int layer : new int[] {-1, 3, FAR, LOW}) {
            refused(Checks.INDEX, "mass in the layer " + layer, land -> land.mass(1, 2, layer, 1));
            refused(Checks.INDEX, "a wrong mass in the layer " + layer, land -> land.mass(1, 2, layer, -1));
        }
        for (long mass : new long[] {-1, 40000000001L, Long.MAX_VALUE, Long.MIN_VALUE}) {
            refused(Checks.ARGUMENT, "the mass " + mass, land -> land.mass(1, 2, 0, mass));
        }
        for (long water : new long[] {-1, 1000000001L, Long.MAX_VALUE, Long.MIN_VALUE}) {
            refused(Checks.ARGUMENT, "the water " + water, land -> land.water(6, 5, water));
        }
    }

    private static void testTideAndMonths() {
        for (int strength : new int[] {-1, 1000001, FAR, LOW}) {
            refused(Checks.ARGUMENT, "the strength " + strength, land -> land.tide(strength, 12));
        }
        for (int period : new int[] {0, 61, -1, FAR, LOW}) {
            refused(Checks.ARGUMENT, "the period " + period, land -> land.tide(300, period));
            refused(Checks.ARGUMENT, "all wrong, period " + period, land -> land.tide(-1, period));
        }
        for (int months : new int[] {0, 121, -1, FAR, LOW}) {
            refused(Checks.ARGUMENT, "pass of " + months, land -> land.pass(months));
            refusedWhenFull(Checks.ARGUMENT, "pass of " + months, land -> land.pass(months));
        }
        refusedWhenFull(Checks.STATE, "pass of 1", land -> land.pass(1));
        refusedWhenFull(Checks.STATE, "pass of 120", land -> land.pass(120));
    }

    private static void testNeedles() {
        for (int kind : new int[] {-1, 2, FAR, LOW}) {
            refused(Checks.ARGUMENT, "the kind " + kind, land -> land.needle(kind, 0));
            refusedWhenFull(Checks.ARGUMENT, "the kind " + kind, land -> land.needle(kind, 0));
        }
        for (int off : new int[] {-1001, 1001, FAR, LOW}) {
            refused(Checks.ARGUMENT, "a mirror off by " + off, land -> land.needle(Gravimere.MIRROR, off));
            refused(Checks.ARGUMENT, "a spring off by " + off, land -> land.needle(Gravimere.SPRING, off));
            refusedWhenFull(Checks.ARGUMENT, "a spring off by " + off, land -> land.needle(Gravimere.SPRING, off));
        }
        for (int needle : new int[] {-1, 3, FAR, LOW}) {
            refused(Checks.INDEX, "tie of " + needle, land -> land.tie(needle));
            refused(Checks.INDEX, "read of " + needle, land -> land.read(needle, 0, 0));
        }
        refused(Checks.STATE, "tie of the first mirror", land -> land.tie(0));
        refused(Checks.STATE, "tie of the last mirror", land -> land.tie(2));
        refusedWhenFull(Checks.INDEX, "tie of 6", land -> land.tie(6));
        refusedWhenFull(Checks.INDEX, "read of 6", land -> land.read(6, 0, 0));
    }

    private static void testBenchmarksAndLines() {
        for (int none : new int[] {-1, 4, FAR, LOW}) {
            refused(Checks.INDEX, "height of " + none, land -> land.height(none));
            refused(Checks.INDEX, "doubt of " + none, land -> land.doubt(none));
            refused(Checks.INDEX, "doubtAnew of " + none, land -> land.doubtAnew(none));
            refused(Checks.INDEX, "isInConflict of " + none, land -> land.isInConflict(none) ? 1 : 0);
            refused(Checks.INDEX, "line from " + none, land -> land.line(none, 1, 0, 0));
            refused(Checks.INDEX, "line to " + none, land -> land.line(1, none, 0, 0));
            refused(Checks.INDEX, "line at " + none, land -> land.line(none, none, 0, 0));
            refused(Checks.INDEX, "a wrong line to " + none, land -> land.line(0, none, FAR, FAR));
        }
        refused(Checks.STATE, "height of 3", land -> land.height(3));
        for (int higher : new int[] {-1000001, 1000001, FAR, LOW}) {
            refused(Checks.ARGUMENT, "higher by " + higher, land -> land.line(0, 3, higher, 0));
            refusedWhenFull(Checks.ARGUMENT, "higher by " + higher, land -> land.line(0, 3, higher, 0));
        }
        for (int doubt : new int[] {-1, 1001, FAR, LOW}) {
            refused(Checks.ARGUMENT, "with the doubt " + doubt, land -> land.line(0, 3, 0, doubt));
            refusedWhenFull(Checks.ARGUMENT, "with the doubt " + doubt, land -> land.line(0, 3, 0, doubt));
        }
        refused(Checks.ARGUMENT, "line from 3 to 3", land -> land.line(3, 3, 0, 0));
        refused(Checks.ARGUMENT, "line from 0 to 0", land -> land.line(0, 0, 0, 0));
        refusedWhenFull(Checks.ARGUMENT, "line from 9 to 9", land -> land.line(9, 9, 0, 0));
        refusedWhenFull(Checks.INDEX, "line to 10", land -> land.line(0, 10, 0, 0));
        refusedWhenFull(Checks.INDEX, "isInConflict of 24", land -> land.isInConflict(24) ? 1 : 0);
        refusedWhenFull(Checks.INDEX, "height of 10", land -> land.height(10));
    }

    private static void testReleases() {
        for (int none : new int[] {-1, 3, FAR, LOW}) {
            refused(Checks.INDEX, "trend of " + none, land -> land.trend(none, 0, 0, 0));
            refused(Checks.INDEX, "trend to " + none, land -> land.trend(0, none, 0, 0));
            refused(Checks.INDEX, "trend from itself, " + none, land -> land.trend(none, none, 0, 0));
        }
        refused(Checks.STATE, "trend of 1 and 2", land -> land.trend(1, 2, 0, 0));
        refused(Checks.STATE, "trend of 2 and 1", land -> land.trend(2, 1, 7, 7));
        refused(Checks.STATE, "trend of 0 and 0", land -> land.trend(0, 0, 3, 3));
        refusedWhenFull(Checks.INDEX, "trend of 12", land -> land.trend(12, 0, 0, 0));
        refusedWhenFull(Checks.STATE, "trend of 11 and 11", land -> land.trend(11, 11, 0, 0));
    }

    private static void testFullOnes() {
        refusedWhenFull(Checks.STATE, "a mirror", land -> land.needle(Gravimere.MIRROR, 1000));
        refusedWhenFull(Checks.STATE, "a spring", land -> land.needle(Gravimere.SPRING, -1000));
        refusedWhenFull(Checks.STATE, "a benchmark", Gravimere::benchmark);
        refusedWhenFull(Checks.STATE, "a line", land -> land.line(0, 9, 0, 0));
        refusedWhenFull(Checks.STATE, "a release", Gravimere::release);
    }
}
