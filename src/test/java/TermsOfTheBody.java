/** The sentences of the document's Terms under 'The body'. */
final class TermsOfTheBody {
    private static final String PLACE = "The body";
    private static final long MOST_MASS = Lands.MOST_MASS;
    private static final long MOST_WATER = Lands.MOST_WATER;

    private final Checks checks;

    TermsOfTheBody(Checks checks) {
        this.checks = checks;
    }

    void test() {
        testCellsAre0To7();
        testLayersAre012();
        testMassIs0To40000000000();
        testWaterIs0To1000000000();
        testPullIsTheSumOfAll();
        testEachPullIsRoundedDownByItself();
        testSquareOfNearestAndFarthest();
        testWaterPullsAsTheLayer0();
    }

    private void testCellsAre0To7() {
        checks.holds(PLACE, "The land has the cells (x, y), both 0 to 7.");
        for (int[] corner : new int[][] {{0, 0}, {7, 0}, {0, 7}, {7, 7}}) {
            answersAt(corner[0], corner[1]);
        }
        for (int[] cell : new int[][] {{-1, 0}, {8, 0}, {-1, 7}, {8, 7}, {0, -1}, {0, 8}, {7, -1}, {7, 8}}) {
            refusedAt(cell[0], cell[1]);
        }
    }

    private void answersAt(int x, int y) {
        String at = " at " + x + ", " + y;
        Gravimere land = Lands.empty();
        land.needle(Gravimere.MIRROR, 3);
        land.release();
        land.pass(1);
        checks.due("mass" + at, land.mass(x, y, 0, 2), 0);
        checks.due("water" + at, land.water(x, y, 1), 0);
        land.release();
        checks.due("pull" + at, land.pull(x, y), 3000000);
        checks.due("pullAnew" + at, land.pullAnew(x, y), 3000000);
        checks.due("read" + at, land.read(0, x, y), 3000003);
        checks.due("trend" + at, land.trend(0, 1, x, y), 3000000);
        checks.due("the pull at the corner across", land.pull(7 - x, 7 - y), 20202 + 10101);
        if (x < 7) {
            checks.due("gap" + at, land.gap(x, y), 1000000 + 500000 - 3000000);
        }
    }

    private void refusedAt(int x, int y) {
        String at = " at " + x + ", " + y;
        checks.refused(Checks.INDEX, "mass" + at, Lands::some, land -> land.mass(x, y, 0, 1));
        checks.refused(Checks.INDEX, "water" + at, Lands::some, land -> land.water(x, y, 1));
        checks.refused(Checks.INDEX, "pull" + at, Lands::some, land -> land.pull(x, y));
        checks.refused(Checks.INDEX, "pullAnew" + at, Lands::some, land -> land.pullAnew(x, y));
        checks.refused(Checks.INDEX, "gap" + at, Lands::some, land -> land.gap(x, y));
        checks.refused(Checks.INDEX, "read" + at, Lands::some, land -> land.read(0, x, y));
        checks.refused(Checks.INDEX, "trend" + at, Lands::some, land -> land.trend(0, 1, x, y));
    }

    private void testLayersAre012() {
        checks.holds(PLACE, "Below each there are the layers 0, 1 and 2,");
        Gravimere land = Lands.empty();
        for (int layer = 0; layer < 3; layer++) {
            checks.due("mass in the layer " + layer, land.mass(7, 7, layer, 36), 0);
        }
        checks.due("the pull above all layers", land.pull(7, 7), 36000000 + 9000000 + 4000000);
        for (int layer : new int[] {-1, 3}) {
            checks.refused(Checks.INDEX, "mass in the layer " + layer, Lands::some, on -> on.mass(1, 2, layer, 1));
            checks.refused(Checks.INDEX, "mass in the last cell's layer " + layer, Lands::some,
                    on -> on.mass(7, 7, layer, 1));
        }
    }

    private void testMassIs0To40000000000() {
        checks.holds(PLACE, "each with a mass, 0 to 40000000000, 0 at first;");
        Gravimere land = Lands.empty();
        for (int cell = 0; cell < 64; cell++) {
            for (int layer = 0; layer < 3; layer++) {
                checks.due("the mass at first", land.mass(cell % 8, cell / 8, layer, 40000000000L), 0);
                checks.due("the largest mass", land.mass(cell % 8, cell / 8, layer, 0), 40000000000L);
            }
        }
        for (long mass : new long[] {-1, 40000000001L}) {
            checks.refused(Checks.ARGUMENT, "the mass " + mass, Lands::some, on -> on.mass(1, 2, 0, mass));
        }
        // 40000000000 is no int; what is left of it as an int, 1345294336, is not the limit.
        checks.due("the mass that is an int's remainder and 1", Lands.empty().mass(0, 0, 0, 1345294337L), 0);
    }

    private void testWaterIs0To1000000000() {
        checks.holds(PLACE, "on it there is water, 0 to 1000000000, 0 at first.");
        Gravimere land = Lands.empty();
        for (int cell = 0; cell < 64; cell++) {
            checks.due("the water at first", land.water(cell % 8, cell / 8, 1000000000), 0);
            checks.due("the most water", land.water(cell % 8, cell / 8, 0), 1000000000);
            checks.due("no water again", land.water(cell % 8, cell / 8, 0), 0);
        }
        for (long water : new long[] {-1, 1000000001L}) {
            checks.refused(Checks.ARGUMENT, "the water " + water, Lands::some, on -> on.water(6, 5, water));
        }
    }

    private void testPullIsTheSumOfAll() {
        checks.holds(PLACE, "The pull at a cell is the sum of what all masses and waters pull there:");
        Gravimere land = Lands.empty();
        checks.due("the pull of an empty body", land.pull(3, 3), 0);
        Lands.fillBody(land);
        for (int cell = 0; cell < 64; cell++) {
            checks.due("the pull of a full body", land.pull(cell % 8, cell / 8),
                    Lands.pullOfFullBody(cell % 8, cell / 8));
        }
        Gravimere edges = Lands.empty();
        edges.mass(0, 0, 0, 9900);
        edges.mass(7, 7, 2, 10700);
        edges.water(7, 0, 5000);
        edges.water(0, 7, 9900);
        checks.due("the pull of the corners at 0, 0", edges.pull(0, 0), 9900000000L + 100000000 + 100000000 + 198000000);
        checks.due("the pull of the corners at 7, 7", edges.pull(7, 7), 100000000 + 1188888888L + 100000000 + 198000000);
    }

    private void testEachPullIsRoundedDownByItself() {
        checks.holds(PLACE, "a mass times 1000000, divided by the square of the distance, rounded down, each by itself;");
        Gravimere land = Lands.empty();
        land.mass(2, 2, 0, 3);
        checks.due("a pull without a remainder", land.pull(3, 3), 1000000);
        land.mass(2, 2, 0, 1);
        checks.due("a pull with the remainder 1 of 3", land.pull(3, 3), 333333);
        land.mass(2, 2, 0, 2);
        checks.due("a pull with the remainder 2 of 3", land.pull(3, 3), 666666);
        // Three pulls of 333333 and a third: together they stay below 1000000, wherever the masses are.
        land.mass(2, 2, 0, 1);
        land.water(2, 2, 1);
        land.mass(4, 4, 0, 1);
        checks.due("three pulls, each rounded", land.pull(3, 3), 999999);
        checks.due("three pulls, each rounded, anew", land.pullAnew(3, 3), 999999);
        // Layers 0 and 2 of one cell: the squares 1 and 9, the remainder 1 of 9.
        Gravimere one = Lands.empty();
        one.mass(5, 5, 2, 1);
        checks.due("the mass 1 in the layer 2", one.pull(5, 5), 111111);
        one.mass(5, 5, 2, MOST_MASS);
        checks.due("the largest mass in the layer 2", one.pull(5, 5), 4444444444444444L);
        one.mass(5, 5, 0, MOST_MASS);
        checks.due("the largest masses in the layers 0 and 2", one.pull(5, 5), 44444444444444444L);
        one.mass(5, 5, 0, 0);
        one.mass(5, 5, 2, 0);
        checks.due("both taken off, to the last digit", one.pull(5, 5), 0);
    }

    private void testSquareOfNearestAndFarthest() {
        checks.holds(PLACE, "that square is dx times dx, dy times dy, and 1, 4 or 9 for the layers 0, 1 and 2, together;");
        long[] nearest = {1, 4, 9};
        long[] besideInX = {2, 5, 10};
        long[] farthest = {99, 102, 107};
        for (int layer = 0; layer < 3; layer++) {
            for (int[] from : new int[][] {{0, 0}, {7, 0}, {0, 7}, {7, 7}}) {
                int x = from[0];
                int y = from[1];
                Gravimere land = Lands.empty();
                land.mass(x, y, layer, MOST_MASS);
                String call = "the pull of the corner " + x + ", " + y + ", layer " + layer + ", ";
                checks.due(call + "above it", land.pull(x, y), MOST_MASS * 1000000 / nearest[layer]);
                checks.due(call + "beside it", land.pull(x == 0 ? 1 : 6, y), MOST_MASS * 1000000 / besideInX[layer]);
                checks.due(call + "below it", land.pull(x, y == 0 ? 1 : 6), MOST_MASS * 1000000 / besideInX[layer]);
                checks.due(call + "across", land.pull(7 - x, 7 - y), MOST_MASS * 1000000 / farthest[layer]);
                checks.due(call + "across, anew", land.pullAnew(7 - x, 7 - y), MOST_MASS * 1000000 / farthest[layer]);
            }
        }
    }

    private void testWaterPullsAsTheLayer0() {
        checks.holds(PLACE, "for water as for the layer 0.");
        for (long amount : new long[] {1, MOST_WATER}) {
            Gravimere wet = Lands.empty();
            wet.water(0, 7, amount);
            Gravimere dry = Lands.empty();
            dry.mass(0, 7, 0, amount);
            for (int cell = 0; cell < 64; cell++) {
                checks.due("the pull of water", wet.pull(cell % 8, cell / 8), dry.pull(cell % 8, cell / 8));
                checks.due("the pull of water anew", wet.pullAnew(cell % 8, cell / 8), dry.pull(cell % 8, cell / 8));
            }
            checks.due("the pull of water on its cell", wet.pull(0, 7), amount * 1000000);
            checks.due("the pull of water across", wet.pull(7, 0), amount * 1000000 / 99);
            checks.due("the mass below water", wet.mass(0, 7, 0, 5), 0);
            checks.due("the pull of both", wet.pull(0, 7), amount * 1000000 + 5000000);
        }
    }
}
