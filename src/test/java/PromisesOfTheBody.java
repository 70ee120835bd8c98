/** The sentences of the promises 1 to 6: a new object, mass, water, pull, pullAnew, gap. */
final class PromisesOfTheBody {
    private static final long MOST_MASS = Lands.MOST_MASS;
    private static final long MOST_WATER = Lands.MOST_WATER;
    private static final int[][] NO_CELLS = {
        {-1, 0}, {8, 0}, {0, -1}, {0, 8}, {-1, 8}, {8, 8}, {Checks.FAR, 0}, {Checks.LOW, 0}, {0, Checks.FAR},
        {0, Checks.LOW},
    };

    private final Checks checks;

    PromisesOfTheBody(Checks checks) {
        this.checks = checks;
    }

    void test() {
        test1NewObjectIsEmpty();
        test2MassIsTold();
        test2Layer();
        test2MassRange();
        test2ReturnsTheOneBefore();
        test2NoSuchCellOrLayer();
        test2MassOutOfRange();
        test3WaterIsTold();
        test3WaterRange();
        test3ReturnsThatBefore();
        test3NoSuchCell();
        test3WaterOutOfRange();
        test4Pull();
        test4NoSuchCell();
        test5PullAnewIsTheSame();
        test5NoSuchCell();
        test6Gap();
        test6NoSuchCell();
    }

    private void test1NewObjectIsEmpty() {
        checks.holds("Promise 1: A new object", "Begins in the month 0, without masses, waters, needles, benchmarks and "
                + "releases.");
        // Others that are full stand beside it: nothing of theirs is in it.
        Lands.fillBody(Lands.full());
        Gravimere land = new Gravimere();
        for (int cell = 0; cell < 64; cell++) {
            checks.due("pull of a new object", land.pull(cell % 8, cell / 8), 0);
            checks.due("water of a new object", land.water(cell % 8, cell / 8, 0), 0);
            for (int layer = 0; layer < 3; layer++) {
                checks.due("mass of a new object", land.mass(cell % 8, cell / 8, layer, 0), 0);
            }
        }
        Gravimere none = new Gravimere();
        checks.dueThrow("the needle 0", Checks.INDEX, () -> none.read(0, 0, 0));
        checks.dueThrow("tie of the needle 0", Checks.INDEX, () -> none.tie(0));
        checks.dueThrow("the benchmark 0", Checks.INDEX, () -> none.height(0));
        checks.dueThrow("the doubt of the benchmark 0", Checks.INDEX, () -> none.doubt(0));
        checks.dueThrow("the doubt of the benchmark 0, anew", Checks.INDEX, () -> none.doubtAnew(0));
        checks.dueThrow("the line 0", Checks.INDEX, () -> none.isInConflict(0) ? 1 : 0);
        checks.dueThrow("the release 0", Checks.INDEX, () -> none.trend(0, 0, 0, 0));
        checks.due("the first needle", none.needle(Gravimere.MIRROR, 0), 0);
        checks.due("the first benchmark", none.benchmark(), 0);
        checks.due("the first release", none.release(), 0);
        checks.due("the strength before the first tide", none.tide(1, 2), 0);
        checks.due("the tide of the month 0", none.read(0, 0, 0), 1);
        checks.due("the first month that comes", none.pass(1), 1);
    }

    private void test2MassIsTold() {
        checks.holds("Promise 2: mass", "Tells a mass.");
        Gravimere land = Lands.empty();
        land.mass(0, 7, 1, 40);
        checks.due("pull of the mass", land.pull(0, 7), 10000000);
        land.mass(0, 7, 1, 39);
        checks.due("pull of the mass that is told last", land.pull(0, 7), 9750000);
        land.mass(0, 7, 1, 0);
        checks.due("pull of no mass", land.pull(0, 7), 0);
    }

    private void test2Layer() {
        checks.holds("Promise 2: mass", "`layer`: 0 to 2");
        Gravimere land = Lands.empty();
        for (int layer = 0; layer <= 2; layer++) {
            land.mass(3, 4, layer, 10 + layer);
        }
        for (int layer = 0; layer <= 2; layer++) {
            checks.due("mass of the layer " + layer, land.mass(3, 4, layer, 0), 10 + layer);
        }
        checks.refused(Checks.INDEX, "the layer -1", Lands::empty, on -> on.mass(0, 0, -1, 0));
        checks.refused(Checks.INDEX, "the layer 3", Lands::empty, on -> on.mass(7, 7, 3, 0));
    }

    private void test2MassRange() {
        checks.holds("Promise 2: mass", "`mass`: 0 to 40000000000");
        Gravimere land = Lands.empty();
        for (long mass : new long[] {0, 1, MOST_MASS - 1, MOST_MASS}) {
            land.mass(6, 1, 2, mass);
            checks.due("pull of the mass " + mass, land.pull(6, 1), mass * 1000000 / 9);
            checks.due("pull of it anew", land.pullAnew(6, 1), mass * 1000000 / 9);
        }
        checks.refused(Checks.ARGUMENT, "the mass -1", Lands::empty, on -> on.mass(6, 1, 2, -1));
        checks.refused(Checks.ARGUMENT, "the mass 40000000001", Lands::empty, on -> on.mass(6, 1, 2, 40000000001L));
    }

    private void test2ReturnsTheOneBefore() {
        checks.holds("Promise 2: mass", "Returns the one before.");
        Gravimere land = Lands.empty();
        long before = 0;
        for (long mass : new long[] {MOST_MASS, MOST_MASS, 0, 0, 1, MOST_MASS - 1, 2}) {
            checks.due("mass " + mass, land.mass(7, 0, 2, mass), before);
            before = mass;
        }
        checks.dueThrow("a mass out of range", Checks.ARGUMENT, () -> land.mass(7, 0, 2, -1));
        checks.due("mass after one that was refused", land.mass(7, 0, 2, 5), 2);
    }

    private void test2NoSuchCellOrLayer() {
        checks.holds("Promise 2: mass", "Throws `IndexOutOfBoundsException` as told, of the cell or the layer");
        for (int[] cell : NO_CELLS) {
            checks.refused(Checks.INDEX, "mass of no cell", Lands::some, on -> on.mass(cell[0], cell[1], 0, 5));
            checks.refused(Checks.INDEX, "a wrong mass of no cell", Lands::some, on -> on.mass(cell[0], cell[1], 0, -1));
        }
        for (int layer : new int[] {-1, 3, Checks.FAR, Checks.LOW}) {
            checks.refused(Checks.INDEX, "mass of no layer", Lands::some, on -> on.mass(1, 2, layer, 5));
            checks.refused(Checks.INDEX, "a wrong mass of no layer", Lands::some, on -> on.mass(1, 2, layer, -1));
        }
    }

    private void test2MassOutOfRange() {
        checks.holds("Promise 2: mass", "Throws `IllegalArgumentException` if mass is out of range");
        for (long mass : new long[] {-1, MOST_MASS + 1, Long.MAX_VALUE, Long.MIN_VALUE}) {
            for (int layer = 0; layer < 3; layer++) {
                int depth = layer;
                checks.refused(Checks.ARGUMENT, "the mass " + mass, Lands::some, on -> on.mass(1, 2, depth, mass));
            }
        }
    }

    private void test3WaterIsTold() {
        checks.holds("Promise 3: water", "Tells the water of a cell.");
        Gravimere land = Lands.empty();
        land.water(7, 0, 3);
        checks.due("pull of the water", land.pull(7, 0), 3000000);
        checks.due("pull of the water beside", land.pull(6, 0), 1500000);
        land.water(7, 0, 2);
        checks.due("pull of the water that is told last", land.pull(7, 0), 2000000);
        checks.due("the mass below it", land.mass(7, 0, 0, 0), 0);
    }

    private void test3WaterRange() {
        checks.holds("Promise 3: water", "`water`: 0 to 1000000000");
        Gravimere land = Lands.empty();
        for (long water : new long[] {0, 1, MOST_WATER - 1, MOST_WATER}) {
            land.water(1, 6, water);
            checks.due("pull of the water " + water, land.pull(2, 7), water * 1000000 / 3);
            checks.due("pull of it anew", land.pullAnew(2, 7), water * 1000000 / 3);
        }
        checks.refused(Checks.ARGUMENT, "the water -1", Lands::empty, on -> on.water(1, 6, -1));
        checks.refused(Checks.ARGUMENT, "the water 1000000001", Lands::empty, on -> on.water(1, 6, 1000000001L));
    }

    private void test3ReturnsThatBefore() {
        checks.holds("Promise 3: water", "Returns that before.");
        Gravimere land = Lands.empty();
        long before = 0;
        for (long water : new long[] {MOST_WATER, MOST_WATER, 0, 0, 1, 2}) {
            checks.due("water " + water, land.water(0, 0, water), before);
            before = water;
        }
        checks.dueThrow("a water out of range", Checks.ARGUMENT, () -> land.water(0, 0, -1));
        checks.due("water after one that was refused", land.water(0, 0, 5), 2);
        checks.due("water of the last cell", land.water(7, 7, 5), 0);
    }

    private void test3NoSuchCell() {
        checks.holds("Promise 3: water", "Throws `IndexOutOfBoundsException` as told");
        for (int[] cell : NO_CELLS) {
            checks.refused(Checks.INDEX, "water of no cell", Lands::some, on -> on.water(cell[0], cell[1], 5));
            checks.refused(Checks.INDEX, "a wrong water of no cell", Lands::some, on -> on.water(cell[0], cell[1], -1));
        }
    }

    private void test3WaterOutOfRange() {
        checks.holds("Promise 3: water", "Throws `IllegalArgumentException` if water is out of range");
        for (long water : new long[] {-1, MOST_WATER + 1, MOST_MASS, Long.MAX_VALUE, Long.MIN_VALUE}) {
            checks.refused(Checks.ARGUMENT, "the water " + water, Lands::some, on -> on.water(6, 5, water));
        }
    }

    private void test4Pull() {
        checks.holds("Promise 4: pull", "Returns the pull at a cell.");
        Gravimere land = Lands.empty();
        checks.due("pull of nothing", land.pull(0, 0), 0);
        land.mass(0, 0, 0, 1);
        checks.due("pull at the first cell", land.pull(0, 0), 1000000);
        checks.due("pull at the last cell", land.pull(7, 7), 10101);
        checks.due("pull along x", land.pull(7, 0), 20000);
        checks.due("pull along y", land.pull(0, 7), 20000);
        land.tide(5, 1);
        land.needle(Gravimere.MIRROR, 9);
        checks.due("pull with a tide and a needle", land.pull(0, 0), 1000000);
        Gravimere full = Lands.empty();
        Lands.fillBody(full);
        for (int cell = 0; cell < 64; cell++) {
            checks.due("pull of all", full.pull(cell % 8, cell / 8), Lands.pullOfFullBody(cell % 8, cell / 8));
        }
    }

    private void test4NoSuchCell() {
        checks.holds("Promise 4: pull", "Throws `IndexOutOfBoundsException` as told");
        for (int[] cell : NO_CELLS) {
            checks.refused(Checks.INDEX, "pull of no cell", Lands::some, on -> on.pull(cell[0], cell[1]));
        }
    }

    private void test5PullAnewIsTheSame() {
        checks.holds("Promise 5: pullAnew", "Returns the same, summed up directly.");
        Gravimere land = Lands.empty();
        checks.due("pullAnew of nothing", land.pullAnew(7, 7), 0);
        Lands.fillBody(land);
        for (int cell = 0; cell < 64; cell++) {
            checks.due("pullAnew of all", land.pullAnew(cell % 8, cell / 8), Lands.pullOfFullBody(cell % 8, cell / 8));
        }
        for (int layer = 0; layer < 3; layer++) {
            land.mass(5, 2, layer, layer);
        }
        land.water(5, 2, 1);
        checks.due("pullAnew after changes", land.pullAnew(5, 2), land.pull(5, 2));
        checks.due("pullAnew after changes, elsewhere", land.pullAnew(0, 7), land.pull(0, 7));
    }

    private void test5NoSuchCell() {
        checks.holds("Promise 5: pullAnew", "Throws `IndexOutOfBoundsException` as told");
        for (int[] cell : NO_CELLS) {
            checks.refused(Checks.INDEX, "pullAnew of no cell", Lands::some, on -> on.pullAnew(cell[0], cell[1]));
        }
    }

    private void test6Gap() {
        checks.holds("Promise 6: gap", "Returns the gap at a cell.");
        Gravimere land = Lands.empty();
        checks.due("gap of nothing", land.gap(0, 0), 0);
        land.water(0, 7, 10);
        checks.due("the first gap", land.gap(0, 7), 5000000 - 10000000);
        checks.due("the last gap", land.gap(6, 7), 200000 - 10000000 / 37);
        checks.due("a gap in the first row", land.gap(0, 0), 10000000 / 51 - 200000);
        land.water(0, 7, 0);
        checks.due("gap of nothing again", land.gap(0, 7), 0);
    }

    private void test6NoSuchCell() {
        checks.holds("Promise 6: gap", "Throws `IndexOutOfBoundsException` as told, also for x 7");
        for (int[] cell : NO_CELLS) {
            checks.refused(Checks.INDEX, "gap of no cell", Lands::some, on -> on.gap(cell[0], cell[1]));
        }
        for (int row = -1; row <= 8; row++) {
            int y = row;
            checks.refused(Checks.INDEX, "gap at 7, " + y, Lands::some, on -> on.gap(7, y));
        }
        checks.due("gap at 6", Lands.empty().gap(6, 0), 0);
    }
}
