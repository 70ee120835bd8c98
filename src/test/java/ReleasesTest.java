/** Promises 18 and 19: release, trend. */
public final class ReleasesTest {
    private static final Checks checks = new Checks("ReleasesTest");

    public static void main(String[] args) {
        testReleaseNumbers();
        testReleaseKeepsAllCells();
        testTrendIsRoundedDown();
        testTrendIsByMonths();
        testTrendOfOneMonth();
        testTrendHasNoTide();
        testTrendOfTheFullestLand();
        checks.finish();
    }

    private static void testReleaseNumbers() {
        Gravimere land = new Gravimere();
        land.pass(1);
        for (int number = 0; number < 12; number++) {
            int n = number;
            checks.dueThrow("trend before the release", Checks.INDEX, () -> land.trend(n, 0, 0, 0));
            checks.dueThrow("trend to what is no release", Checks.INDEX, () -> land.trend(0, n, 0, 0));
            checks.due("release", land.release(), number);
            land.pass(1);
        }
        checks.dueThrow("the release 12", Checks.STATE, land::release);
        checks.dueThrow("trend of the release 12", Checks.INDEX, () -> land.trend(12, 0, 0, 0));
        checks.dueThrow("trend to the release 12", Checks.INDEX, () -> land.trend(0, 12, 0, 0));
        checks.due("trend of nothing", land.trend(11, 0, 7, 7), 0);
    }

    private static void testReleaseKeepsAllCells() {
        Gravimere land = new Gravimere();
        land.release();
        land.mass(1, 6, 1, 123456);
        land.water(5, 2, 7890);
        long[] pulls = new long[64];
        for (int cell = 0; cell < 64; cell++) {
            pulls[cell] = land.pull(cell % 8, cell / 8);
        }
        land.pass(1);
        land.release();
        land.mass(1, 6, 1, 1);
        land.water(5, 2, 0);
        land.mass(0, 0, 0, 999999);
        land.pass(1);
        land.release();
        for (int cell = 0; cell < 64; cell++) {
            int x = cell % 8;
            int y = cell / 8;
            checks.due("trend of the first month", land.trend(0, 1, x, y), pulls[cell]);
            checks.due("trend of the second month", land.trend(1, 2, x, y), land.pull(x, y) - pulls[cell]);
        }
    }

    private static void testTrendIsRoundedDown() {
        Gravimere land = new Gravimere();
        land.mass(3, 3, 0, 1);
        land.release();
        land.mass(3, 3, 0, 0);
        land.pass(3);
        land.release();
        land.mass(3, 3, 0, 1);
        land.pass(3);
        land.release();
        checks.due("trend below 0", land.trend(0, 1, 3, 3), -333334);
        checks.due("trend below 0, turned", land.trend(1, 0, 3, 3), -333334);
        checks.due("trend above 0", land.trend(1, 2, 3, 3), 333333);
        checks.due("trend above 0, turned", land.trend(2, 1, 3, 3), 333333);
        checks.due("trend of 0", land.trend(0, 2, 3, 3), 0);
        // 500000 over 3 months at the cell beside.
        checks.due("trend below 0 beside", land.trend(0, 1, 4, 3), -166667);
        // 1000000 / 5 over 3 months, two cells away.
        checks.due("trend above 0 away", land.trend(1, 2, 3, 5), 66666);
    }

    private static void testTrendIsByMonths() {
        Gravimere land = new Gravimere();
        land.release();
        land.water(0, 0, 240);
        for (int round = 0; round < 25; round++) {
            land.pass(120);
        }
        land.release();
        checks.due("trend over 3000 months", land.trend(0, 1, 0, 0), 80000);
        Gravimere other = new Gravimere();
        other.pass(100);
        other.release();
        other.water(0, 0, 12);
        other.pass(1);
        other.release();
        checks.due("trend over a month", other.trend(1, 0, 0, 0), 12000000);
    }

    private static void testTrendOfOneMonth() {
        Gravimere land = new Gravimere();
        land.release();
        land.mass(0, 0, 0, 5);
        land.release();
        land.pass(1);
        land.release();
        checks.dueThrow("trend to itself", Checks.STATE, () -> land.trend(0, 0, 0, 0));
        checks.dueThrow("trend of one month", Checks.STATE, () -> land.trend(0, 1, 0, 0));
        checks.dueThrow("trend of one month, turned", Checks.STATE, () -> land.trend(1, 0, 0, 0));
        checks.due("trend from the first one", land.trend(0, 2, 0, 0), 5000000);
        checks.due("trend from the second one", land.trend(1, 2, 0, 0), 0);
        checks.dueThrow("trend at 8", Checks.INDEX, () -> land.trend(0, 1, 8, 0));
        checks.dueThrow("trend at row -1", Checks.INDEX, () -> land.trend(0, 1, 0, -1));
        checks.dueThrow("trend of the release 3", Checks.INDEX, () -> land.trend(3, 3, 0, 0));
        checks.dueThrow("trend of the release -1", Checks.INDEX, () -> land.trend(-1, 0, 0, 0));
        checks.dueThrow("trend to the release -1", Checks.INDEX, () -> land.trend(0, -1, 0, 0));
    }

    private static void testTrendHasNoTide() {
        Gravimere land = new Gravimere();
        land.tide(1000000, 2);
        land.release();
        land.pass(1);
        land.release();
        checks.due("trend with a tide", land.trend(0, 1, 4, 4), 0);
    }

    private static void testTrendOfTheFullestLand() {
        Gravimere land = new Gravimere();
        land.release();
        for (int cell = 0; cell < 64; cell++) {
            for (int layer = 0; layer < 3; layer++) {
                land.mass(cell % 8, cell / 8, layer, 40000000000L);
            }
            land.water(cell % 8, cell / 8, 1000000000L);
        }
        long full = land.pull(3, 4);
        land.pass(1);
        land.release();
        checks.due("the most that a pull can rise", land.trend(0, 1, 3, 4), full);
        for (int cell = 0; cell < 64; cell++) {
            land.mass(cell % 8, cell / 8, 0, 0);
        }
        long less = land.pull(3, 4);
        land.pass(120);
        land.release();
        checks.due("a fall of the fullest land", land.trend(1, 2, 3, 4), Math.floorDiv(less - full, 120L));
        checks.due("from nothing to the rest", land.trend(2, 0, 3, 4), less / 121);
    }
}
