/** The sentences of the document's Terms under 'Heights'. */
final class TermsOfHeights {
    private static final String PLACE = "Heights";

    private final Checks checks;

    TermsOfHeights(Checks checks) {
        this.checks = checks;
    }

    void test() {
        testBenchmarksAre0To9();
        testLineGoesToAnotherBenchmark();
        testLineTellsByHowMuchHigher();
        testDoubtIs0To1000();
        testLinesAre0To23();
        testLinesCanBeGoneBothWays();
        testHeightsAreFoundWheneverAskedFor();
        testBenchmark0IsFirst();
        testLeastDoubtOfBothTogether();
        testOfAlikeOnesTheLowestLine();
        testDoubtIsThatSum();
        testNoneIfItCannotBeFound();
        testConflictNeedsBothFound();
        testConflictNeedsMoreThanTheDoubts();
    }

    private void dueFound(Gravimere land, int benchmark, int height, int doubt) {
        checks.due("height of " + benchmark, land.height(benchmark), height);
        checks.due("doubt of " + benchmark, land.doubt(benchmark), doubt);
        checks.due("doubtAnew of " + benchmark, land.doubtAnew(benchmark), doubt);
    }

    private void dueNone(Gravimere land, int benchmark) {
        checks.dueThrow("height of " + benchmark, Checks.STATE, () -> land.height(benchmark));
        checks.due("doubt of " + benchmark, land.doubt(benchmark), -1);
        checks.due("doubtAnew of " + benchmark, land.doubtAnew(benchmark), -1);
    }

    private void dueConflict(Gravimere land, int line, boolean due) {
        checks.due("isInConflict of " + line, land.isInConflict(line), due);
    }

    private void testBenchmarksAre0To9() {
        checks.holds(PLACE, "Benchmarks are numbered from 0, at most 10.");
        Gravimere land = Lands.empty();
        for (int number = 0; number < 10; number++) {
            int n = number;
            checks.dueThrow("height ahead of the benchmark " + n, Checks.INDEX, () -> land.height(n));
            checks.dueThrow("doubt ahead of the benchmark " + n, Checks.INDEX, () -> land.doubt(n));
            checks.dueThrow("doubtAnew ahead of the benchmark " + n, Checks.INDEX, () -> land.doubtAnew(n));
            checks.dueThrow("line ahead of the benchmark " + n, Checks.INDEX, () -> land.line(0, n, 0, 0));
            checks.due("benchmark", land.benchmark(), n);
        }
        checks.dueThrow("the benchmark after 10", Checks.STATE, land::benchmark);
        land.line(9, 0, 4, 5);
        dueFound(land, 9, -4, 5);
        checks.dueThrow("height of 10", Checks.INDEX, () -> land.height(10));
        checks.dueThrow("line to 10", Checks.INDEX, () -> land.line(0, 10, 0, 0));
        checks.dueThrow("line from -1", Checks.INDEX, () -> land.line(-1, 0, 0, 0));
    }

    private void testLineGoesToAnotherBenchmark() {
        checks.holds(PLACE, "A line goes from a benchmark to another one,");
        Gravimere land = Lands.withBenchmarks(10);
        for (int number = 0; number < 10; number++) {
            int n = number;
            checks.dueThrow("line from " + n + " to itself", Checks.ARGUMENT, () -> land.line(n, n, 0, 0));
        }
        checks.due("line from the first to the last one", land.line(0, 9, 1, 2), 0);
        checks.due("line from the last to the first one", land.line(9, 0, 1, 1), 1);
        dueFound(land, 9, -1, 1);
    }

    private void testLineTellsByHowMuchHigher() {
        checks.holds(PLACE, "tells by how much the other one is higher,");
        Gravimere land = Lands.withBenchmarks(4);
        land.line(0, 1, 1000000, 0);
        land.line(0, 2, -1000000, 0);
        land.line(0, 3, 0, 0);
        dueFound(land, 1, 1000000, 0);
        dueFound(land, 2, -1000000, 0);
        dueFound(land, 3, 0, 0);
        for (int higher : new int[] {-1000001, 1000001}) {
            checks.refused(Checks.ARGUMENT, "higher by " + higher, Lands::some, on -> on.line(0, 3, higher, 0));
        }
    }

    private void testDoubtIs0To1000() {
        checks.holds(PLACE, "and a doubt, 0 to 1000;");
        Gravimere land = Lands.withBenchmarks(3);
        land.line(0, 1, 5, 0);
        land.line(0, 2, 6, 1000);
        dueFound(land, 1, 5, 0);
        dueFound(land, 2, 6, 1000);
        for (int doubt : new int[] {-1, 1001}) {
            checks.refused(Checks.ARGUMENT, "with the doubt " + doubt, Lands::some, on -> on.line(0, 3, 0, doubt));
        }
    }

    private void testLinesAre0To23() {
        checks.holds(PLACE, "lines are numbered from 0, at most 24,");
        Gravimere land = Lands.withBenchmarks(2);
        for (int number = 0; number < 24; number++) {
            int n = number;
            checks.dueThrow("isInConflict ahead of the line " + n, Checks.INDEX, () -> land.isInConflict(n) ? 1 : 0);
            checks.due("line", land.line(0, 1, 100 * n, 50 - n), n);
        }
        checks.dueThrow("the line after 24", Checks.STATE, () -> land.line(0, 1, 0, 0));
        // The last one is the surest one: height 2300, doubt 27. The line 22 has the doubt 28.
        dueFound(land, 1, 2300, 27);
        dueConflict(land, 23, false);
        dueConflict(land, 22, true);
        dueConflict(land, 0, true);
        checks.dueThrow("isInConflict of 24", Checks.INDEX, () -> land.isInConflict(24) ? 1 : 0);
        checks.dueThrow("isInConflict of -1", Checks.INDEX, () -> land.isInConflict(-1) ? 1 : 0);
    }

    private void testLinesCanBeGoneBothWays() {
        checks.holds(PLACE, "and can be gone both ways.");
        Gravimere land = Lands.withBenchmarks(5);
        land.line(0, 1, 7, 1);
        land.line(2, 0, 7, 1);
        land.line(3, 2, -1000000, 2);
        land.line(1, 4, 1000000, 2);
        dueFound(land, 1, 7, 1);
        dueFound(land, 2, -7, 1);
        dueFound(land, 3, 999993, 3);
        dueFound(land, 4, 1000007, 3);
    }

    private void testHeightsAreFoundWheneverAskedFor() {
        checks.holds(PLACE, "Heights are found one by one, whenever they are asked for, by all lines that are told by then:");
        Gravimere land = Lands.withBenchmarks(2);
        dueNone(land, 1);
        land.line(0, 1, 40, 9);
        checks.due("height by the only line", land.height(1), 40);
        land.line(0, 1, 30, 8);
        checks.due("doubt by a surer line", land.doubt(1), 8);
        land.line(0, 1, 20, 7);
        checks.due("doubtAnew by a surer line", land.doubtAnew(1), 7);
        land.line(0, 1, 10, 1);
        dueConflict(land, 3, false);
        dueConflict(land, 0, true);
        land.line(0, 1, 50, 0);
        dueFound(land, 1, 50, 0);
        // A line that is no surer changes nothing.
        land.line(0, 1, 60, 0);
        dueFound(land, 1, 50, 0);
        // A benchmark that comes later has no height yet; the others keep theirs.
        land.benchmark();
        dueNone(land, 2);
        dueFound(land, 1, 50, 0);
        land.line(1, 2, 1, 1);
        dueFound(land, 2, 51, 1);
    }

    private void testBenchmark0IsFirst() {
        checks.holds(PLACE, "the benchmark 0 first, with the height 0 and the doubt 0;");
        Gravimere land = Lands.withBenchmarks(1);
        dueFound(land, 0, 0, 0);
        land.benchmark();
        land.benchmark();
        // Lines round to the benchmark 0 again, of no doubt: it keeps its height.
        land.line(0, 1, 5, 0);
        land.line(1, 2, 5, 0);
        land.line(2, 0, 5, 0);
        dueFound(land, 0, 0, 0);
        dueFound(land, 1, 5, 0);
        dueFound(land, 2, 10, 0);
        dueConflict(land, 1, false);
        dueConflict(land, 2, true);
    }

    private void testLeastDoubtOfBothTogether() {
        checks.holds(PLACE, "then always, of all lines between a benchmark that is found and one that is not, that with the "
                + "least doubt of the found one and its own together,");
        // To 2 a line of the doubt 1 goes on from 1, whose doubt is 10: the line of the doubt 10 is surer.
        Gravimere land = Lands.withBenchmarks(3);
        land.line(0, 1, 100, 10);
        land.line(1, 2, 100, 1);
        land.line(0, 2, 5, 10);
        dueFound(land, 2, 5, 10);
        dueFound(land, 1, 100, 10);
        // One less, and the way over 1 is the surer one.
        Gravimere other = Lands.withBenchmarks(3);
        other.line(0, 2, 5, 12);
        other.line(0, 1, 100, 10);
        other.line(1, 2, 100, 1);
        dueFound(other, 2, 200, 11);
        // A line between two that are found, and one between two that are not, find nothing.
        Gravimere third = Lands.withBenchmarks(5);
        third.line(3, 4, 1, 0);
        third.line(0, 1, 10, 3);
        third.line(0, 2, 20, 3);
        third.line(1, 2, 30, 0);
        dueFound(third, 1, 10, 3);
        dueFound(third, 2, 20, 3);
        dueNone(third, 3);
        dueNone(third, 4);
    }

    private void testOfAlikeOnesTheLowestLine() {
        checks.holds(PLACE, "of alike ones the lowest line, by which the other one is found:");
        // All 24 lines are alike: the line 0 goes ahead; of two that are surer by 1, the one ahead of the last.
        Gravimere alike = Lands.withBenchmarks(2);
        Gravimere lastOnes = Lands.withBenchmarks(2);
        for (int number = 0; number < 24; number++) {
            alike.line(0, 1, number, 1000);
            lastOnes.line(number % 2, 1 - number % 2, number, number < 22 ? 1000 : 999);
        }
        dueFound(alike, 1, 0, 1000);
        dueFound(lastOnes, 1, 22, 999);
        // Alike sums of unlike parts: 3 and 5 over 1, or 8.
        Gravimere over = Lands.withBenchmarks(3);
        over.line(1, 2, 100, 5);
        over.line(0, 2, 7, 8);
        over.line(0, 1, 10, 3);
        dueFound(over, 2, 110, 8);
        Gravimere direct = Lands.withBenchmarks(3);
        direct.line(0, 2, 7, 8);
        direct.line(1, 2, 100, 5);
        direct.line(0, 1, 10, 3);
        dueFound(direct, 2, 7, 8);
        // 1 and 2 are alike far: which line is lower decides which is found first, and by what the other one.
        Gravimere order = Lands.withBenchmarks(3);
        order.line(2, 1, 1000, 0);
        order.line(0, 2, 5, 9);
        order.line(0, 1, 70, 9);
        dueFound(order, 2, 5, 9);
        dueFound(order, 1, 1005, 9);
    }

    private void testDoubtIsThatSum() {
        checks.holds(PLACE, "its doubt is that sum, its height follows by the line.");
        Gravimere up = Lands.withBenchmarks(10);
        Gravimere down = Lands.withBenchmarks(10);
        Gravimere sure = Lands.withBenchmarks(10);
        for (int number = 8; number >= 0; number--) {
            up.line(number, number + 1, 1000000, 1000);
            down.line(number + 1, number, 1000000, 1000);
            sure.line(number, number + 1, 1, 0);
        }
        for (int number = 0; number < 10; number++) {
            dueFound(up, number, 1000000 * number, 1000 * number);
            dueFound(down, number, -1000000 * number, 1000 * number);
            dueFound(sure, number, number, 0);
        }
    }

    private void testNoneIfItCannotBeFound() {
        checks.holds(PLACE, "Benchmarks that cannot be found so have none.");
        Gravimere land = Lands.withBenchmarks(10);
        for (int number = 1; number < 10; number++) {
            dueNone(land, number);
        }
        // All lines that there may be, but none that leaves the benchmark 0.
        for (int number = 0; number < 23; number++) {
            land.line(1 + number % 8, 2 + number % 8, 3, 0);
        }
        for (int number = 1; number < 10; number++) {
            dueNone(land, number);
        }
        dueFound(land, 0, 0, 0);
        land.line(9, 0, 100, 4);
        for (int number = 1; number < 10; number++) {
            dueFound(land, number, -100 - 3 * (9 - number), 4);
        }
    }

    private void testConflictNeedsBothFound() {
        checks.holds(PLACE, "A line is in conflict, if both its benchmarks are found,");
        Gravimere land = Lands.withBenchmarks(3);
        land.line(1, 2, 1000000, 0);
        land.line(1, 2, -1000000, 0);
        dueConflict(land, 0, false);
        dueConflict(land, 1, false);
        land.line(2, 0, 0, 0);
        dueConflict(land, 0, false);
        dueConflict(land, 1, true);
        dueConflict(land, 2, false);
    }

    private void testConflictNeedsMoreThanTheDoubts() {
        checks.holds(PLACE, "and what it tells differs from the difference of their heights by more than its doubt and "
                + "theirs, together.");
        // Heights 100 and 50, doubts 3 and 4; the line's own is 5: 12 together.
        for (int[] told : new int[][] {{-50, 0}, {-38, 0}, {-37, 1}, {-62, 0}, {-63, 1}}) {
            Gravimere land = Lands.withBenchmarks(3);
            land.line(0, 1, 100, 3);
            land.line(0, 2, 50, 4);
            dueConflict(land, land.line(1, 2, told[0], 5), told[1] == 1);
            dueConflict(land, land.line(2, 1, -told[0], 5), told[1] == 1);
        }
        // No doubt at all: off by 1 is enough.
        Gravimere sure = Lands.withBenchmarks(2);
        sure.line(0, 1, 8, 0);
        dueConflict(sure, sure.line(0, 1, 8, 0), false);
        dueConflict(sure, sure.line(0, 1, 7, 0), true);
        dueConflict(sure, sure.line(1, 0, -8, 0), false);
        dueConflict(sure, sure.line(1, 0, -9, 0), true);
        // The largest heights, doubts and what a line tells against them.
        Gravimere far = Lands.withBenchmarks(10);
        for (int number = 0; number < 5; number++) {
            far.line(number, number + 1, 1000000, 1000);
        }
        far.line(6, 0, 1000000, 1000);
        for (int number = 6; number < 9; number++) {
            far.line(number + 1, number, 1000000, 1000);
        }
        dueFound(far, 5, 5000000, 5000);
        dueFound(far, 9, -4000000, 4000);
        dueConflict(far, far.line(5, 9, 1000000, 1000), true);
        dueConflict(far, far.line(9, 5, 1000000, 1000), true);
        dueConflict(far, 8, false);
    }
}
