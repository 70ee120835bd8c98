/** Promises 1 to 6: a new object, mass, water, pull, pullAnew, gap. */
public final class BodyTest {
    private static final Checks checks = new Checks("BodyTest");
    private static final long MOST_MASS = 40000000000L;
    private static final long MOST_WATER = 1000000000L;

    public static void main(String[] args) {
        testNewObject();
        testMassAnswersTheOneBefore();
        testWaterAnswersThatBefore();
        testPlacesAreApart();
        testPullByDistance();
        testEachPullIsRoundedByItself();
        testPullGoesBackToTheLastDigit();
        testFullBody();
        testGap();
        checks.finish();
    }

    private static void testNewObject() {
        Gravimere land = new Gravimere();
        for (int x = 0; x < 8; x++) {
            for (int y = 0; y < 8; y++) {
                checks.due("pull of a new land", land.pull(x, y), 0);
                checks.due("pullAnew of a new land", land.pullAnew(x, y), 0);
            }
        }
        Gravimere other = new Gravimere();
        for (int x = 0; x < 8; x++) {
            for (int y = 0; y < 8; y++) {
                checks.due("water of a new land", other.water(x, y, 1), 0);
                for (int layer = 0; layer < 3; layer++) {
                    checks.due("mass of a new land", other.mass(x, y, layer, 1), 0);
                }
            }
        }
        Gravimere empty = new Gravimere();
        checks.dueThrow("read of a new land", Checks.INDEX, () -> empty.read(0, 0, 0));
        checks.dueThrow("tie of a new land", Checks.INDEX, () -> empty.tie(0));
        checks.dueThrow("height of a new land", Checks.INDEX, () -> empty.height(0));
        checks.dueThrow("isInConflict of a new land", Checks.INDEX, () -> empty.isInConflict(0) ? 1 : 0);
        checks.dueThrow("trend of a new land", Checks.INDEX, () -> empty.trend(0, 0, 0, 0));
        checks.due("the first month", empty.pass(1), 1);
    }

    private static void testMassAnswersTheOneBefore() {
        Gravimere land = new Gravimere();
        checks.due("mass, least", land.mass(0, 0, 0, 0), 0);
        checks.due("mass, most", land.mass(0, 0, 0, MOST_MASS), 0);
        checks.due("mass again", land.mass(0, 0, 0, 5), MOST_MASS);
        checks.due("mass taken off", land.mass(0, 0, 0, 0), 5);
        checks.due("mass after all", land.mass(0, 0, 0, 0), 0);
    }

    private static void testWaterAnswersThatBefore() {
        Gravimere land = new Gravimere();
        checks.due("water, least", land.water(7, 7, 0), 0);
        checks.due("water, most", land.water(7, 7, MOST_WATER), 0);
        checks.due("water again", land.water(7, 7, 9), MOST_WATER);
        checks.due("water taken off", land.water(7, 7, 0), 9);
    }

    private static void testPlacesAreApart() {
        Gravimere land = new Gravimere();
        for (int x = 0; x < 8; x++) {
            for (int layer = 0; layer < 3; layer++) {
                land.mass(x, 2, layer, 100 + 10 * x + layer);
                land.mass(2, x, layer, 1000 + 10 * x + layer);
            }
            land.water(x, 2, 500 + x);
        }
        for (int x = 3; x < 8; x++) {
            for (int layer = 0; layer < 3; layer++) {
                checks.due("mass of a row", land.mass(x, 2, layer, 1), 100 + 10 * x + layer);
                checks.due("mass of a column", land.mass(2, x, layer, 1), 1000 + 10 * x + layer);
            }
            checks.due("water of a row", land.water(x, 2, 1), 500 + x);
        }
    }

    private static void testPullByDistance() {
        for (int layer = 0; layer < 3; layer++) {
            Gravimere land = new Gravimere();
            land.mass(2, 5, layer, 1234567);
            dueByDistance(land, 1234567, (layer + 1) * (layer + 1));
        }
        Gravimere land = new Gravimere();
        land.water(2, 5, 7654321);
        dueByDistance(land, 7654321, 1);
    }

    // The mass stands at the cell (2, 5).
    private static void dueByDistance(Gravimere land, long mass, int depth) {
        for (int x = 0; x < 8; x++) {
            for (int y = 0; y < 8; y++) {
                long due = mass * 1000000 / ((x - 2) * (x - 2) + (y - 5) * (y - 5) + depth);
                checks.due("pull at " + x + ", " + y, land.pull(x, y), due);
                checks.due("pullAnew at " + x + ", " + y, land.pullAnew(x, y), due);
            }
        }
    }

    private static void testEachPullIsRoundedByItself() {
        Gravimere land = new Gravimere();
        // At the cell (1, 1) the square is 3 for each: 333333 and a third, thrice and once more as water.
        land.mass(0, 0, 0, 1);
        land.mass(2, 2, 0, 1);
        land.mass(0, 2, 0, 1);
        land.water(0, 0, 1);
        checks.due("pull, each rounded", land.pull(1, 1), 1333332);
        checks.due("pullAnew, each rounded", land.pullAnew(1, 1), 1333332);
        land.mass(1, 1, 2, 1);
        checks.due("pull with the layer 2", land.pull(1, 1), 1444443);
        checks.due("pullAnew with the layer 2", land.pullAnew(1, 1), 1444443);
    }

    private static void testPullGoesBackToTheLastDigit() {
        Gravimere land = new Gravimere();
        land.mass(3, 3, 1, 77);
        land.water(6, 1, 13);
        long[] before = pullsOf(land);
        for (int round = 1; round <= 20; round++) {
            land.mass(4, 2, round % 3, 1000003L * round);
            land.water(1, 6, 7L * round);
        }
        for (int layer = 0; layer < 3; layer++) {
            land.mass(4, 2, layer, 0);
        }
        land.water(1, 6, 0);
        long[] after = pullsOf(land);
        for (int cell = 0; cell < 64; cell++) {
            checks.due("the pull of the cell " + cell + " as before", after[cell], before[cell]);
        }
    }

    private static long[] pullsOf(Gravimere land) {
        long[] pulls = new long[64];
        for (int cell = 0; cell < 64; cell++) {
            pulls[cell] = land.pull(cell % 8, cell / 8);
        }
        return pulls;
    }

    private static void testFullBody() {
        Gravimere land = new Gravimere();
        for (int cell = 0; cell < 64; cell++) {
            for (int layer = 0; layer < 3; layer++) {
                land.mass(cell % 8, cell / 8, layer, MOST_MASS);
            }
            land.water(cell % 8, cell / 8, MOST_WATER);
        }
        for (int cell = 0; cell < 64; cell++) {
            int x = cell % 8;
            int y = cell / 8;
            long due = fullPull(x, y);
            checks.due("pull of a full land", land.pull(x, y), due);
            checks.due("pullAnew of a full land", land.pullAnew(x, y), due);
        }
    }

    private static long fullPull(int x, int y) {
        long sum = 0;
        for (int cell = 0; cell < 64; cell++) {
            int square = (x - cell % 8) * (x - cell % 8) + (y - cell / 8) * (y - cell / 8);
            sum += MOST_WATER * 1000000 / (square + 1) + MOST_MASS * 1000000 / (square + 1)
                    + MOST_MASS * 1000000 / (square + 4) + MOST_MASS * 1000000 / (square + 9);
        }
        return sum;
    }

    private static void testGap() {
        Gravimere land = new Gravimere();
        land.mass(3, 3, 0, 7);
        checks.due("gap beyond the mass", land.gap(3, 3), -3500000);
        checks.due("gap ahead of the mass", land.gap(2, 3), 3500000);
        checks.due("gap at 0", land.gap(0, 3), 1400000 - 700000);
        checks.due("gap at 6", land.gap(6, 3), 411764 - 700000);
        checks.due("gap in another row", land.gap(0, 7), 7000000 / 21 - 7000000 / 26);
        checks.dueThrow("gap at 7", Checks.INDEX, () -> land.gap(7, 0));
        checks.dueThrow("gap at 8", Checks.INDEX, () -> land.gap(8, 0));
        checks.dueThrow("gap at -1", Checks.INDEX, () -> land.gap(-1, 0));
        checks.dueThrow("gap at row 8", Checks.INDEX, () -> land.gap(0, 8));
        checks.dueThrow("gap at row -1", Checks.INDEX, () -> land.gap(0, -1));
    }
}
