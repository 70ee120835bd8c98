/** The sentences of the promises 18 and 19: release, trend. */
final class PromisesOfReleases {
    private static final int FAR = Checks.FAR;
    private static final int LOW = Checks.LOW;

    private final Checks checks;

    PromisesOfReleases(Checks checks) {
        this.checks = checks;
    }

    void test() {
        test18ReleaseIsMade();
        test18NotAbove12();
        test19Trend();
        test19NoSuchReleaseOrCell();
        test19BothOfOneMonth();
    }

    private void test18ReleaseIsMade() {
        checks.holds("Promise 18: release", "Makes a release; returns its number.");
        Gravimere land = Lands.empty();
        for (int number = 0; number < 12; number++) {
            int n = number;
            checks.dueThrow("trend ahead of the release " + n, Checks.INDEX, () -> land.trend(0, n, 0, 0));
            land.mass(7, 7, 0, number);
            checks.due("release", land.release(), number);
            land.pass(1);
        }
        for (int number = 1; number < 12; number++) {
            checks.due("trend from 0 to " + number, land.trend(0, number, 7, 7), 1000000);
        }
    }

    private void test18NotAbove12() {
        checks.holds("Promise 18: release", "@throws IllegalStateException if there are 12");
        Gravimere land = Lands.empty();
        for (int number = 0; number < 11; number++) {
            land.release();
        }
        land.pass(1);
        land.water(0, 0, 1);
        checks.due("the release after 11", land.release(), 11);
        checks.dueThrow("the release after 12", Checks.STATE, land::release);
        checks.due("trend to the last one", land.trend(0, 11, 0, 0), 1000000);
        checks.refused(Checks.STATE, "a release after 12", Lands::full, Gravimere::release);
    }

    private void test19Trend() {
        checks.holds("Promise 19: trend", "Returns the trend of a cell between two releases.");
        Gravimere land = Lands.empty();
        land.mass(0, 0, 0, 99);
        land.release();
        land.mass(0, 0, 0, 0);
        land.mass(7, 7, 0, 99);
        Lands.passTo(land, 0, 2);
        land.release();
        checks.due("trend of the first cell", land.trend(0, 1, 0, 0), (1000000 - 99000000) / 2);
        checks.due("trend of the last cell", land.trend(0, 1, 7, 7), (99000000 - 1000000) / 2);
        checks.due("trend of a cell between", land.trend(0, 1, 7, 0), 0);
        checks.due("trend of the first cell, turned", land.trend(1, 0, 0, 0), (1000000 - 99000000) / 2);
        Lands.passTo(land, 2, 3000);
        land.mass(7, 7, 0, 0);
        land.release();
        checks.due("trend down to the month 3000", land.trend(1, 2, 7, 7), -33023);
        checks.due("trend over all months", land.trend(0, 2, 0, 0), -33000);
    }

    private void test19NoSuchReleaseOrCell() {
        checks.holds("Promise 19: trend", "Throws `IndexOutOfBoundsException` as told, of a release or the cell");
        for (int none : new int[] {-1, 3, 12, FAR, LOW}) {
            checks.refused(Checks.INDEX, "trend of " + none, Lands::some, on -> on.trend(none, 0, 0, 0));
            checks.refused(Checks.INDEX, "trend to " + none, Lands::some, on -> on.trend(0, none, 0, 0));
            checks.refused(Checks.INDEX, "trend of " + none + " to it", Lands::some, on -> on.trend(none, none, 0, 0));
        }
        for (int none : new int[] {-1, 8, FAR, LOW}) {
            checks.refused(Checks.INDEX, "trend at x " + none, Lands::some, on -> on.trend(0, 1, none, 0));
            checks.refused(Checks.INDEX, "trend at y " + none, Lands::some, on -> on.trend(0, 1, 0, none));
            checks.refused(Checks.INDEX, "trend of one month at " + none, Lands::some, on -> on.trend(1, 2, none, none));
        }
        checks.refused(Checks.INDEX, "trend of 12, of 12", Lands::full, on -> on.trend(12, 0, 0, 0));
        checks.refused(Checks.INDEX, "trend to 12, of 12", Lands::full, on -> on.trend(0, 12, 0, 0));
        checks.refused(Checks.INDEX, "trend of 0, of none", Lands::empty, on -> on.trend(0, 0, 0, 0));
    }

    private void test19BothOfOneMonth() {
        checks.holds("Promise 19: trend", "Throws `IllegalStateException` if both are of one month");
        checks.refused(Checks.STATE, "trend of 1 and 2", Lands::some, on -> on.trend(1, 2, 0, 0));
        checks.refused(Checks.STATE, "trend of 2 and 1", Lands::some, on -> on.trend(2, 1, 7, 7));
        checks.refused(Checks.STATE, "trend of 0 and 0", Lands::some, on -> on.trend(0, 0, 0, 0));
        checks.refused(Checks.STATE, "trend of 11 and 11", Lands::full, on -> on.trend(11, 11, 7, 0));
        checks.due("trend of 0 and 2, a month apart and more", Lands.some().trend(0, 2, 7, 0), 5000000000L / 4 / 3);
    }
}
