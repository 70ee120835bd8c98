/** The sentences of the document's Terms under 'Releases'. */
final class TermsOfReleases {
    private static final String PLACE = "Releases";

    private final Checks checks;

    TermsOfReleases(Checks checks) {
        this.checks = checks;
    }

    void test() {
        testReleaseKeepsAllPullsAndTheMonth();
        testTrendIsLaterLessOther();
        testTrendIsRoundedDownAlsoBelow0();
    }

    private void testReleaseKeepsAllPullsAndTheMonth() {
        checks.holds(PLACE, "A release keeps the pulls of all cells, and the month.");
        Gravimere land = Lands.empty();
        land.release();
        land.pass(1);
        Lands.fillBody(land);
        land.release();
        // What is told later does not change what is kept.
        for (int y = 0; y < 8; y++) {
            land.mass(7, y, 0, 0);
            land.water(0, y, 0);
        }
        land.pass(9);
        for (int cell = 0; cell < 64; cell++) {
            long due = Lands.pullOfFullBody(cell % 8, cell / 8);
            checks.due("the trend of the cell " + cell, land.trend(0, 1, cell % 8, cell / 8), due);
        }
        // A mass in one corner pulls unlike at x, y and at y, x.
        Gravimere corner = Lands.empty();
        corner.release();
        corner.water(7, 0, 1000);
        corner.pass(1);
        corner.release();
        for (int cell = 0; cell < 64; cell++) {
            int x = cell % 8;
            int y = cell / 8;
            checks.due("the trend at " + x + ", " + y, corner.trend(0, 1, x, y), corner.pull(x, y));
            checks.due("the trend at " + x + ", " + y + ", turned", corner.trend(1, 0, x, y), corner.pull(x, y));
        }
        Gravimere old = Lands.empty();
        old.release();
        Lands.passTo(old, 0, 3000);
        for (int number = 1; number < 12; number++) {
            old.mass(7, 7, 0, 3 * number);
            checks.due("release", old.release(), number);
        }
        checks.due("the trend over all months", old.trend(0, 11, 7, 7), 11000);
        checks.due("the trend to another one of the month 3000", old.trend(0, 1, 7, 7), 1000);
    }

    private void testTrendIsLaterLessOther() {
        checks.holds(PLACE, "The trend of a cell between two releases of unlike months is the pull in the later one, by "
                + "months, less that in the other one,");
        Gravimere land = Lands.empty();
        land.mass(0, 0, 0, 50);
        land.release();
        checks.dueThrow("the trend of a release to itself", Checks.STATE, () -> land.trend(0, 0, 0, 0));
        land.mass(0, 0, 0, 70);
        land.release();
        checks.dueThrow("the trend of two of one month", Checks.STATE, () -> land.trend(0, 1, 0, 0));
        checks.dueThrow("the trend of two of one month, turned", Checks.STATE, () -> land.trend(1, 0, 0, 0));
        land.pass(1);
        land.mass(0, 0, 0, 40);
        land.release();
        checks.due("a trend below 0", land.trend(0, 2, 0, 0), -10000000);
        checks.due("a trend below 0, turned", land.trend(2, 0, 0, 0), -10000000);
        checks.due("a trend from the second one", land.trend(1, 2, 0, 0), -30000000);
        land.pass(2);
        land.mass(0, 0, 0, 46);
        land.release();
        checks.due("a trend above 0", land.trend(2, 3, 0, 0), 3000000);
        checks.due("a trend above 0, turned", land.trend(3, 2, 0, 0), 3000000);
    }

    private void testTrendIsRoundedDownAlsoBelow0() {
        checks.holds(PLACE, "divided by the months between, rounded down, also below 0.");
        // The pull at 1, 1 goes from 1000000 to three times 333333: 1 less.
        for (int months : new int[] {1, 2, 3000}) {
            Gravimere fall = Lands.empty();
            fall.mass(1, 1, 0, 1);
            fall.release();
            fall.mass(1, 1, 0, 0);
            threeThirds(fall);
            Lands.passTo(fall, 0, months);
            fall.release();
            checks.due("1 less in " + months + " months", fall.trend(0, 1, 1, 1), -1);
            Gravimere rise = Lands.empty();
            threeThirds(rise);
            rise.release();
            rise.mass(1, 1, 0, 1);
            takeThirdsOff(rise);
            Lands.passTo(rise, 0, months);
            rise.release();
            checks.due("1 more in " + months + " months", rise.trend(0, 1, 1, 1), months == 1 ? 1 : 0);
        }
        Gravimere even = Lands.empty();
        even.water(4, 4, 1);
        even.release();
        even.water(4, 4, 0);
        even.pass(5);
        even.release();
        checks.due("below 0 without a remainder", even.trend(0, 1, 4, 4), -200000);
        even.pass(3);
        even.water(4, 4, 1);
        even.release();
        checks.due("above 0 with a remainder", even.trend(1, 2, 4, 4), 333333);
        checks.due("no change", even.trend(0, 2, 4, 4), 0);
        Gravimere full = Lands.empty();
        Lands.fillBody(full);
        full.release();
        for (int cell = 0; cell < 64; cell++) {
            full.mass(cell % 8, cell / 8, 0, 0);
        }
        long less = Lands.pullOfFullBody(3, 3) - full.pull(3, 3);
        full.pass(7);
        full.release();
        checks.due("a fall of a full body", full.trend(0, 1, 3, 3), -((less + 6) / 7));
    }

    private static void threeThirds(Gravimere land) {
        land.mass(0, 0, 0, 1);
        land.mass(2, 0, 0, 1);
        land.water(2, 2, 1);
    }

    private static void takeThirdsOff(Gravimere land) {
        land.mass(0, 0, 0, 0);
        land.mass(2, 0, 0, 0);
        land.water(2, 2, 0);
    }
}
