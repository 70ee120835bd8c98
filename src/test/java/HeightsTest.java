/** Promises 12 to 17: benchmark, line, height, doubt, doubtAnew, isInConflict. */
public final class HeightsTest {
    private static final Checks checks = new Checks("HeightsTest");

    public static void main(String[] args) {
        testBenchmarkNumbers();
        testLineNumbers();
        testLineLimits();
        testFirstBenchmark();
        testLinesGoBothWays();
        testNoneWithoutAWay();
        testSurestWay();
        testAlikeTakesLowestLine();
        testAlikeAmongOtherBenchmarks();
        testOrderOfFindingDecides();
        testHeightsFollowEachLine();
        testEachQuestionFindsAnew();
        testLongestWay();
        testConflictLimit();
        testConflictOfLineBackwards();
        testNoConflictWhereNoneIsFound();
        checks.finish();
    }

    private static Gravimere withBenchmarks(int count) {
        Gravimere land = new Gravimere();
        for (int number = 0; number < count; number++) {
            land.benchmark();
        }
        return land;
    }

    private static void dueFound(Gravimere land, int benchmark, int height, int doubt) {
        checks.due("height of " + benchmark, land.height(benchmark), height);
        checks.due("doubt of " + benchmark, land.doubt(benchmark), doubt);
        checks.due("doubtAnew of " + benchmark, land.doubtAnew(benchmark), doubt);
    }

    private static void dueNone(Gravimere land, int benchmark) {
        checks.dueThrow("height of " + benchmark, Checks.STATE, () -> land.height(benchmark));
        checks.due("doubt of " + benchmark, land.doubt(benchmark), Gravimere.NONE);
        checks.due("doubtAnew of " + benchmark, land.doubtAnew(benchmark), Gravimere.NONE);
    }

    private static void dueConflict(Gravimere land, int line, boolean due) {
        checks.due("isInConflict of " + line, land.isInConflict(line), due);
    }

    private static void testBenchmarkNumbers() {
        Gravimere land = new Gravimere();
        for (int number = 0; number < 10; number++) {
            int n = number;
            checks.dueThrow("height before the benchmark", Checks.INDEX, () -> land.height(n));
            checks.dueThrow("doubt before the benchmark", Checks.INDEX, () -> land.doubt(n));
            checks.dueThrow("doubtAnew before the benchmark", Checks.INDEX, () -> land.doubtAnew(n));
            checks.due("benchmark", land.benchmark(), number);
        }
        checks.dueThrow("the eleventh benchmark", Checks.STATE, land::benchmark);
        checks.dueThrow("height of 10", Checks.INDEX, () -> land.height(10));
        checks.dueThrow("doubt of -1", Checks.INDEX, () -> land.doubt(-1));
        checks.dueThrow("height of -1", Checks.INDEX, () -> land.height(-1));
        checks.dueThrow("doubtAnew of -1", Checks.INDEX, () -> land.doubtAnew(-1));
        dueNone(land, 9);
    }

    private static void testLineNumbers() {
        Gravimere land = withBenchmarks(3);
        for (int number = 0; number < 24; number++) {
            int n = number;
            checks.dueThrow("isInConflict before the line", Checks.INDEX, () -> land.isInConflict(n) ? 1 : 0);
            checks.due("line", land.line(number % 2, 1 - number % 2, 0, 0), number);
        }
        checks.dueThrow("the line 24", Checks.STATE, () -> land.line(0, 1, 0, 0));
        checks.dueThrow("the line 24, of no benchmark", Checks.INDEX, () -> land.line(0, 3, 1000001, 0));
        checks.dueThrow("the line 24, to itself", Checks.ARGUMENT, () -> land.line(1, 1, 0, 0));
        checks.dueThrow("the line 24, too doubtful", Checks.ARGUMENT, () -> land.line(0, 1, 0, 1001));
        checks.dueThrow("isInConflict of 24", Checks.INDEX, () -> land.isInConflict(24) ? 1 : 0);
        checks.dueThrow("isInConflict of -1", Checks.INDEX, () -> land.isInConflict(-1) ? 1 : 0);
        dueConflict(land, 23, false);
        dueNone(land, 2);
    }

    private static void testLineLimits() {
        Gravimere land = withBenchmarks(2);
        checks.dueThrow("from -1", Checks.INDEX, () -> land.line(-1, 1, 0, 0));
        checks.dueThrow("from 2", Checks.INDEX, () -> land.line(2, 1, 0, 0));
        checks.dueThrow("to -1", Checks.INDEX, () -> land.line(0, -1, 0, 0));
        checks.dueThrow("to 2", Checks.INDEX, () -> land.line(0, 2, 0, 0));
        checks.dueThrow("from 2 to 2", Checks.INDEX, () -> land.line(2, 2, 0, 0));
        checks.dueThrow("to 2, too high", Checks.INDEX, () -> land.line(0, 2, 1000001, 0));
        checks.dueThrow("from 0 to 0", Checks.ARGUMENT, () -> land.line(0, 0, 0, 0));
        checks.dueThrow("too high", Checks.ARGUMENT, () -> land.line(0, 1, 1000001, 0));
        checks.dueThrow("too low", Checks.ARGUMENT, () -> land.line(0, 1, -1000001, 0));
        checks.dueThrow("doubt -1", Checks.ARGUMENT, () -> land.line(0, 1, 0, -1));
        checks.dueThrow("doubt 1001", Checks.ARGUMENT, () -> land.line(0, 1, 0, 1001));
        checks.due("the line after refusals", land.line(0, 1, -1000000, 1000), 0);
        dueFound(land, 1, -1000000, 1000);
        checks.due("the line at the other ends", land.line(1, 0, -1000000, 0), 1);
        dueFound(land, 1, 1000000, 0);
    }

    private static void testFirstBenchmark() {
        Gravimere land = withBenchmarks(1);
        dueFound(land, 0, 0, 0);
        land.benchmark();
        land.line(1, 0, 9, 0);
        land.line(0, 1, 5, 0);
        dueFound(land, 0, 0, 0);
    }

    private static void testLinesGoBothWays() {
        Gravimere land = withBenchmarks(3);
        land.line(1, 0, 40, 3);
        dueFound(land, 1, -40, 3);
        land.line(1, 2, 50, 4);
        dueFound(land, 2, 10, 7);
    }

    private static void testNoneWithoutAWay() {
        Gravimere land = withBenchmarks(4);
        land.line(1, 2, 10, 0);
        dueNone(land, 1);
        dueNone(land, 2);
        dueNone(land, 3);
        dueFound(land, 0, 0, 0);
        // Heights are found by all lines that are told by then.
        land.line(2, 0, 1, 6);
        dueFound(land, 2, -1, 6);
        dueFound(land, 1, -11, 6);
        dueNone(land, 3);
        land.benchmark();
        dueNone(land, 4);
    }

    private static void testSurestWay() {
        Gravimere land = withBenchmarks(4);
        land.line(0, 3, 999, 100);
        land.line(0, 1, 1, 30);
        land.line(2, 1, 7, 30);
        land.line(3, 2, 5, 39);
        dueFound(land, 1, 1, 30);
        dueFound(land, 2, -6, 60);
        dueFound(land, 3, -11, 99);
        land.line(3, 0, 70, 98);
        dueFound(land, 3, -70, 98);
        dueFound(land, 2, -6, 60);
    }

    private static void testAlikeTakesLowestLine() {
        Gravimere land = withBenchmarks(2);
        land.line(0, 1, 11, 5);
        land.line(0, 1, 22, 5);
        land.line(1, 0, 33, 5);
        dueFound(land, 1, 11, 5);
        land.line(1, 0, 44, 4);
        land.line(0, 1, 55, 4);
        dueFound(land, 1, -44, 4);
    }

    private static void testAlikeAmongOtherBenchmarks() {
        // 2 is found with the doubt 8 by the line 0 over 1, or by the line 2: the line 0 is the lower one.
        Gravimere land = withBenchmarks(3);
        land.line(1, 2, 100, 5);
        land.line(0, 1, 10, 3);
        land.line(0, 2, 7, 8);
        dueFound(land, 2, 110, 8);
        // The same with the direct line first.
        Gravimere other = withBenchmarks(3);
        other.line(0, 2, 7, 8);
        other.line(0, 1, 10, 3);
        other.line(1, 2, 100, 5);
        dueFound(other, 2, 7, 8);
    }

    private static void testOrderOfFindingDecides() {
        // 1 and 2 are alike far; the line 1 finds 2 first, and the line of no doubt finds 1 from there.
        Gravimere land = withBenchmarks(3);
        land.line(2, 1, 1000, 0);
        land.line(0, 2, 5, 9);
        land.line(0, 1, 70, 9);
        dueFound(land, 2, 5, 9);
        dueFound(land, 1, 1005, 9);
        // With the line of no doubt last, the line 1 still goes ahead of it.
        Gravimere other = withBenchmarks(3);
        other.line(0, 2, 5, 9);
        other.line(0, 1, 70, 9);
        other.line(2, 1, 1000, 0);
        dueFound(other, 2, 5, 9);
        dueFound(other, 1, 70, 9);
    }

    private static void testHeightsFollowEachLine() {
        Gravimere land = withBenchmarks(3);
        land.line(0, 1, 10, 10);
        land.line(1, 2, 10, 10);
        dueFound(land, 2, 20, 20);
        land.line(0, 1, 500, 9);
        dueFound(land, 1, 500, 9);
        dueFound(land, 2, 510, 19);
    }

    private static void testEachQuestionFindsAnew() {
        Gravimere land = withBenchmarks(2);
        checks.due("doubt without a line", land.doubt(1), Gravimere.NONE);
        land.line(0, 1, 20, 8);
        checks.due("doubt asked first", land.doubt(1), 8);
        land.line(0, 1, 30, 7);
        checks.due("doubtAnew asked first", land.doubtAnew(1), 7);
        land.line(0, 1, 40, 1);
        dueConflict(land, 0, true);
        land.line(0, 1, 50, 0);
        checks.due("height asked first", land.height(1), 50);
        checks.due("doubt after the height", land.doubt(1), 0);
    }

    private static void testLongestWay() {
        Gravimere land = withBenchmarks(10);
        // Told from the far end, so that trying all lines once is not enough.
        for (int number = 8; number >= 0; number--) {
            land.line(number, number + 1, 1000000, 1000);
        }
        for (int number = 0; number < 10; number++) {
            dueFound(land, number, 1000000 * number, 1000 * number);
        }
        land.line(9, 0, 1000000, 1000);
        dueFound(land, 9, -1000000, 1000);
        dueFound(land, 6, -4000000, 4000);
        // 5 is alike far both ways: the line 3 from 6 is lower than the line 4 from 4.
        dueFound(land, 5, -5000000, 5000);
        dueConflict(land, 3, false);
        dueConflict(land, 4, true);
        dueConflict(land, 9, false);
        Gravimere zigzag = withBenchmarks(10);
        int[] way = {0, 9, 1, 8, 2, 7, 3, 6, 4, 5};
        for (int step = 8; step >= 0; step--) {
            zigzag.line(way[step + 1], way[step], 1, 1);
        }
        for (int step = 0; step < 10; step++) {
            dueFound(zigzag, way[step], -step, step);
        }
    }

    private static void testConflictLimit() {
        Gravimere land = withBenchmarks(3);
        land.line(0, 1, 100, 3);
        land.line(0, 2, 50, 4);
        // The height of 2 above 1 is -50; the doubts are 3, 4 and 5 together 12, or 11 of a line with 4.
        land.line(1, 2, -50 + 12, 5);
        land.line(1, 2, -50 + 13, 5);
        land.line(1, 2, -50 - 12, 5);
        land.line(1, 2, -50 - 13, 5);
        land.line(1, 2, -50 + 12, 4);
        dueConflict(land, 0, false);
        dueConflict(land, 1, false);
        dueConflict(land, 2, false);
        dueConflict(land, 3, true);
        dueConflict(land, 4, false);
        dueConflict(land, 5, true);
        dueConflict(land, 6, true);
    }

    private static void testConflictOfLineBackwards() {
        Gravimere land = withBenchmarks(3);
        land.line(0, 1, 100, 3);
        land.line(0, 2, 50, 4);
        land.line(2, 1, 50 - 12, 5);
        land.line(2, 1, 50 - 13, 5);
        land.line(2, 1, 50 + 13, 5);
        land.line(2, 1, 1000000, 1000);
        land.line(2, 1, 50, 2);
        dueConflict(land, 2, false);
        dueConflict(land, 3, true);
        dueConflict(land, 4, true);
        dueConflict(land, 5, true);
        dueConflict(land, 6, false);
    }

    private static void testNoConflictWhereNoneIsFound() {
        Gravimere land = withBenchmarks(3);
        land.line(1, 2, 10, 0);
        land.line(1, 2, 999999, 0);
        dueConflict(land, 0, false);
        dueConflict(land, 1, false);
        land.line(0, 1, 0, 1000);
        dueConflict(land, 0, false);
        dueConflict(land, 1, true);
    }
}
