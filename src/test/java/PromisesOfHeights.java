/** The sentences of the promises 12 to 17: benchmark, line, height, doubt, doubtAnew, isInConflict. */
final class PromisesOfHeights {
    private static final int FAR = Checks.FAR;
    private static final int LOW = Checks.LOW;
    private static final int[] NO_BENCHMARKS = {-1, 4, 10, FAR, LOW};

    private final Checks checks;

    PromisesOfHeights(Checks checks) {
        this.checks = checks;
    }

    void test() {
        test12BenchmarkIsSet();
        test12NotAbove10();
        test13LineIsTold();
        test13Higher();
        test13Doubt();
        test13ReturnsItsNumber();
        test13NoSuchBenchmark();
        test13SameOrOutOfRange();
        test13NotAbove24();
        test14Height();
        test14NoSuchBenchmark();
        test14None();
        test15Doubt();
        test15NoneIfItCannotBeFound();
        test15NoSuchBenchmark();
        test16DoubtAnewIsTheSame();
        test16NoneIfItCannotBeFound();
        test16NoSuchBenchmark();
        test17IsInConflict();
        test17NoSuchLine();
    }

    private void test12BenchmarkIsSet() {
        checks.holds("Promise 12: benchmark", "Sets a benchmark; returns its number.");
        Gravimere land = Lands.empty();
        for (int number = 0; number < 10; number++) {
            checks.due("benchmark", land.benchmark(), number);
            checks.due("doubt of the newest one", land.doubt(number), number == 0 ? 0 : -1);
        }
        checks.due("height of the first one", land.height(0), 0);
    }

    private void test12NotAbove10() {
        checks.holds("Promise 12: benchmark", "@throws IllegalStateException if there are 10");
        checks.due("the benchmark after 9", Lands.withBenchmarks(9).benchmark(), 9);
        checks.refused(Checks.STATE, "the benchmark after 10", () -> Lands.withBenchmarks(10), Gravimere::benchmark);
        checks.refused(Checks.STATE, "the benchmark after 10 with lines", Lands::full, Gravimere::benchmark);
    }

    private void test13LineIsTold() {
        checks.holds("Promise 13: line", "Tells a line.");
        Gravimere land = Lands.withBenchmarks(10);
        land.line(9, 8, 30, 2);
        land.line(0, 9, 4, 1);
        checks.due("height along two lines", land.height(8), 34);
        checks.due("doubt along two lines", land.doubt(8), 3);
        land.line(8, 0, 1, 0);
        checks.due("height along a surer line", land.height(8), -1);
        checks.due("the line is in no conflict", land.isInConflict(2), false);
    }

    private void test13Higher() {
        checks.holds("Promise 13: line", "`higher`: -1000000 to 1000000: by how much the second one is higher");
        for (int higher : new int[] {-1000000, -999999, -1, 0, 1, 999999, 1000000}) {
            Gravimere land = Lands.withBenchmarks(3);
            land.line(0, 1, higher, 0);
            land.line(2, 0, higher, 0);
            checks.due("height of the second one", land.height(1), higher);
            checks.due("height of the first one", land.height(2), -higher);
        }
        for (int higher : new int[] {-1000001, 1000001}) {
            checks.refused(Checks.ARGUMENT, "higher by " + higher, Lands::some, on -> on.line(0, 1, higher, 0));
            checks.refused(Checks.ARGUMENT, "higher by " + higher, Lands::some, on -> on.line(1, 0, higher, 0));
        }
    }

    private void test13Doubt() {
        checks.holds("Promise 13: line", "`doubt`: 0 to 1000");
        for (int doubt : new int[] {0, 1, 999, 1000}) {
            Gravimere land = Lands.withBenchmarks(2);
            land.line(1, 0, 0, doubt);
            checks.due("doubt along a line of " + doubt, land.doubt(1), doubt);
            checks.due("doubtAnew along a line of " + doubt, land.doubtAnew(1), doubt);
        }
        for (int doubt : new int[] {-1, 1001}) {
            checks.refused(Checks.ARGUMENT, "the doubt " + doubt, Lands::some, on -> on.line(0, 1, 0, doubt));
        }
    }

    private void test13ReturnsItsNumber() {
        checks.holds("Promise 13: line", "Returns its number.");
        Gravimere land = Lands.withBenchmarks(10);
        for (int number = 0; number < 24; number++) {
            checks.dueThrow("a line to itself", Checks.ARGUMENT, () -> land.line(5, 5, 0, 0));
            checks.due("line", land.line(number % 10, (number + 1) % 10, 0, number), number);
        }
    }

    private void test13NoSuchBenchmark() {
        checks.holds("Promise 13: line", "Throws `IndexOutOfBoundsException` as told, of both");
        for (int none : NO_BENCHMARKS) {
            checks.refused(Checks.INDEX, "line from " + none, Lands::some, on -> on.line(none, 3, 0, 0));
            checks.refused(Checks.INDEX, "line to " + none, Lands::some, on -> on.line(3, none, 0, 0));
            checks.refused(Checks.INDEX, "line from and to " + none, Lands::some, on -> on.line(none, none, 0, 0));
            checks.refused(Checks.INDEX, "a wrong line from " + none, Lands::some, on -> on.line(none, 3, FAR, -1));
            checks.refused(Checks.INDEX, "a wrong line to " + none, Lands::some, on -> on.line(3, none, LOW, 1001));
        }
        for (int none : new int[] {-1, 10}) {
            checks.refused(Checks.INDEX, "line from " + none + ", of 24", Lands::full, on -> on.line(none, 0, 0, 0));
            checks.refused(Checks.INDEX, "line to " + none + ", of 24", Lands::full, on -> on.line(0, none, 0, 0));
        }
        checks.refused(Checks.INDEX, "line without a benchmark", Lands::empty, on -> on.line(0, 1, 0, 0));
        checks.refused(Checks.INDEX, "line from 0 to 0 without a benchmark", Lands::empty, on -> on.line(0, 0, 0, 0));
    }

    private void test13SameOrOutOfRange() {
        checks.holds("Promise 13: line", "Throws `IllegalArgumentException` if both are the same, or higher or doubt is out "
                + "of range");
        for (int same : new int[] {0, 3}) {
            checks.refused(Checks.ARGUMENT, "line from " + same + " to it", Lands::some, on -> on.line(same, same, 0, 0));
        }
        checks.refused(Checks.ARGUMENT, "line from 9 to 9, of 24", Lands::full, on -> on.line(9, 9, 0, 0));
        checks.refused(Checks.ARGUMENT, "line from the only one to it", () -> Lands.withBenchmarks(1),
                on -> on.line(0, 0, 0, 0));
        for (int higher : new int[] {-1000001, 1000001, FAR, LOW}) {
            checks.refused(Checks.ARGUMENT, "higher by " + higher, Lands::some, on -> on.line(0, 3, higher, 1000));
            checks.refused(Checks.ARGUMENT, "higher by " + higher + ", of 24", Lands::full,
                    on -> on.line(0, 3, higher, 1000));
        }
        for (int doubt : new int[] {-1, 1001, FAR, LOW}) {
            checks.refused(Checks.ARGUMENT, "doubt " + doubt, Lands::some, on -> on.line(0, 3, -1000000, doubt));
            checks.refused(Checks.ARGUMENT, "doubt " + doubt + ", of 24", Lands::full, on -> on.line(0, 3, 0, doubt));
        }
    }

    private void test13NotAbove24() {
        checks.holds("Promise 13: line", "Throws `IllegalStateException` if there are 24");
        Gravimere land = Lands.withBenchmarks(2);
        for (int number = 0; number < 23; number++) {
            land.line(0, 1, 0, 1000);
        }
        checks.due("the line after 23", land.line(0, 1, 7, 999), 23);
        checks.dueThrow("the line after 24", Checks.STATE, () -> land.line(0, 1, 8, 998));
        checks.due("height by the last line", land.height(1), 7);
        checks.refused(Checks.STATE, "a line after 24", Lands::full, on -> on.line(0, 9, 0, 0));
        checks.refused(Checks.STATE, "the widest line after 24", Lands::full, on -> on.line(9, 0, -1000000, 1000));
    }

    private void test14Height() {
        checks.holds("Promise 14: height", "Returns the height of a benchmark.");
        Gravimere land = Lands.withBenchmarks(10);
        checks.due("height of the first one", land.height(0), 0);
        for (int number = 9; number > 0; number--) {
            land.line(number, number - 1, 1000000, 1000);
        }
        checks.due("the least height", land.height(9), -9000000);
        land.line(9, 0, -1000000, 0);
        checks.due("a height above 0", land.height(9), 1000000);
        checks.due("a height on the way back", land.height(8), 2000000);
        // 5 is found with 4000 over 9, 4 with 4000 over 1.
        checks.due("height where both ways meet, from 9", land.height(5), 5000000);
        checks.due("height where both ways meet, from 1", land.height(4), -4000000);
    }

    private void test14NoSuchBenchmark() {
        checks.holds("Promise 14: height", "Throws `IndexOutOfBoundsException` as told");
        for (int none : NO_BENCHMARKS) {
            checks.refused(Checks.INDEX, "height of " + none, Lands::some, on -> on.height(none));
        }
        checks.refused(Checks.INDEX, "height of 10, of 10", Lands::full, on -> on.height(10));
        checks.refused(Checks.INDEX, "height of 0, of none", Lands::empty, on -> on.height(0));
        checks.refused(Checks.INDEX, "height of 1, of 1", () -> Lands.withBenchmarks(1), on -> on.height(1));
    }

    private void test14None() {
        checks.holds("Promise 14: height", "Throws `IllegalStateException` if it has none");
        for (int number = 1; number < 10; number++) {
            int n = number;
            checks.refused(Checks.STATE, "height of " + n, () -> Lands.withBenchmarks(10), on -> on.height(n));
        }
        checks.refused(Checks.STATE, "height of one that no line goes to", Lands::some, on -> on.height(3));
        Gravimere island = Lands.withBenchmarks(3);
        island.line(1, 2, 5, 0);
        checks.dueThrow("height of an island", Checks.STATE, () -> island.height(2));
        island.line(0, 1, 5, 1000);
        checks.due("height of what was an island", island.height(2), 10);
    }

    private void test15Doubt() {
        checks.holds("Promise 15: doubt", "Returns the doubt of a benchmark.");
        Gravimere land = Lands.withBenchmarks(10);
        checks.due("doubt of the first one", land.doubt(0), 0);
        for (int number = 8; number >= 0; number--) {
            land.line(number + 1, number, 1, 1000);
        }
        for (int number = 0; number < 10; number++) {
            checks.due("doubt of " + number, land.doubt(number), 1000 * number);
        }
        land.line(0, 9, 0, 0);
        checks.due("the least doubt", land.doubt(9), 0);
        checks.due("doubt on the way back", land.doubt(6), 3000);
    }

    private void test15NoneIfItCannotBeFound() {
        checks.holds("Promise 15: doubt", "Returns the doubt; NONE if it cannot be found.");
        Gravimere land = Lands.withBenchmarks(10);
        for (int number = 1; number < 10; number++) {
            checks.due("doubt of " + number, land.doubt(number), Gravimere.NONE);
        }
        land.line(8, 9, 0, 0);
        checks.due("doubt of an island", land.doubt(9), Gravimere.NONE);
        land.line(0, 8, 0, 0);
        checks.due("doubt of what was an island", land.doubt(9), 0);
        checks.due("doubt of another one", land.doubt(1), Gravimere.NONE);
    }

    private void test15NoSuchBenchmark() {
        checks.holds("Promise 15: doubt", "Throws `IndexOutOfBoundsException` as told");
        for (int none : NO_BENCHMARKS) {
            checks.refused(Checks.INDEX, "doubt of " + none, Lands::some, on -> on.doubt(none));
        }
        checks.refused(Checks.INDEX, "doubt of 10, of 10", Lands::full, on -> on.doubt(10));
        checks.refused(Checks.INDEX, "doubt of 0, of none", Lands::empty, on -> on.doubt(0));
    }

    private void test16DoubtAnewIsTheSame() {
        checks.holds("Promise 16: doubtAnew", "Returns the same, found by trying all lines as long as one makes some doubt "
                + "less.");
        // Told from the far end, and each backwards: all lines must be tried nine times over.
        Gravimere far = Lands.withBenchmarks(10);
        for (int number = 8; number >= 0; number--) {
            far.line(number + 1, number, 1, 1000);
        }
        for (int number = 0; number < 10; number++) {
            checks.due("doubtAnew of " + number, far.doubtAnew(number), 1000 * number);
            checks.due("doubt of " + number, far.doubt(number), 1000 * number);
        }
        // Each way is found by a long line first, then made less by shorter ones, up to all 24.
        Gravimere less = Lands.withBenchmarks(10);
        for (int number = 1; number < 10; number++) {
            less.line(0, number, 0, 1000);
        }
        checks.due("doubtAnew along the long line", less.doubtAnew(9), 1000);
        for (int number = 9; number > 0; number--) {
            less.line(number, number - 1, 0, 3);
        }
        checks.due("doubtAnew along the short lines", less.doubtAnew(9), 27);
        checks.due("doubt along the short lines", less.doubt(9), 27);
        for (int number = 1; number < 7; number++) {
            less.line(number + 3, number, 0, 1);
        }
        for (int number = 0; number < 10; number++) {
            checks.due("doubtAnew of " + number + " after 24 lines", less.doubtAnew(number), less.doubt(number));
        }
        // The way over 1, 4, 7 and 6.
        checks.due("doubtAnew of the last one after 24 lines", less.doubtAnew(9), 3 + 1 + 1 + 3 + 1);
        Gravimere sure = Lands.withBenchmarks(2);
        checks.due("doubtAnew of the first one", sure.doubtAnew(0), 0);
        sure.line(1, 0, 0, 0);
        checks.due("doubtAnew along a line without doubt", sure.doubtAnew(1), 0);
    }

    private void test16NoneIfItCannotBeFound() {
        checks.holds("Promise 16: doubtAnew", "Returns the doubt; NONE if it cannot be found.");
        Gravimere land = Lands.withBenchmarks(10);
        for (int number = 1; number < 10; number++) {
            checks.due("doubtAnew of " + number, land.doubtAnew(number), Gravimere.NONE);
        }
        land.line(8, 9, 0, 0);
        checks.due("doubtAnew of an island", land.doubtAnew(9), Gravimere.NONE);
        land.line(0, 8, 0, 0);
        checks.due("doubtAnew of what was an island", land.doubtAnew(9), 0);
        checks.due("doubtAnew of another one", land.doubtAnew(1), Gravimere.NONE);
    }

    private void test16NoSuchBenchmark() {
        checks.holds("Promise 16: doubtAnew", "Throws `IndexOutOfBoundsException` as told");
        for (int none : NO_BENCHMARKS) {
            checks.refused(Checks.INDEX, "doubtAnew of " + none, Lands::some, on -> on.doubtAnew(none));
        }
        checks.refused(Checks.INDEX, "doubtAnew of 10, of 10", Lands::full, on -> on.doubtAnew(10));
        checks.refused(Checks.INDEX, "doubtAnew of 0, of none", Lands::empty, on -> on.doubtAnew(0));
    }

    private void test17IsInConflict() {
        checks.holds("Promise 17: isInConflict", "Returns whether a line is in conflict.");
        // The line 0 gives the height 0 and the doubt 0; each other one is off by 7.
        Gravimere land = Lands.withBenchmarks(2);
        land.line(0, 1, 0, 0);
        for (int number = 1; number < 24; number++) {
            land.line(number % 2, 1 - number % 2, number % 3 == 0 ? 7 : -7, number % 4 == 0 ? 7 : 6);
        }
        checks.due("isInConflict of 0", land.isInConflict(0), false);
        for (int number = 1; number < 24; number++) {
            checks.due("isInConflict of " + number, land.isInConflict(number), number % 4 != 0);
        }
        Gravimere island = Lands.withBenchmarks(3);
        island.line(1, 2, 1000000, 0);
        island.line(1, 2, 0, 0);
        checks.due("isInConflict of an island's line", island.isInConflict(1), false);
        island.line(0, 2, 0, 0);
        checks.due("isInConflict of what was an island's line", island.isInConflict(1), true);
    }

    private void test17NoSuchLine() {
        checks.holds("Promise 17: isInConflict", "Throws `IndexOutOfBoundsException` as told");
        for (int none : new int[] {-1, 4, 24, FAR, LOW}) {
            checks.refused(Checks.INDEX, "isInConflict of " + none, Lands::some, on -> on.isInConflict(none) ? 1 : 0);
        }
        checks.refused(Checks.INDEX, "isInConflict of 24, of 24", Lands::full, on -> on.isInConflict(24) ? 1 : 0);
        checks.refused(Checks.INDEX, "isInConflict of 0, of none", Lands::empty, on -> on.isInConflict(0) ? 1 : 0);
        checks.refused(Checks.INDEX, "isInConflict of 0, of benchmarks alone", () -> Lands.withBenchmarks(10),
                on -> on.isInConflict(0) ? 1 : 0);
    }
}
