/** The sentences of the document's Terms under 'Tides, needles'. */
final class TermsOfTidesAndNeedles {
    private static final String PLACE = "Tides, needles";

    private final Checks checks;

    TermsOfTidesAndNeedles(Checks checks) {
        this.checks = checks;
    }

    void test() {
        testMonthsAreCountedFrom0();
        testStrengthIs0To1000000();
        testPeriodIs1To60();
        testTideIsAddedBelowHalfOfThePeriod();
        testTideIsTakenOffOtherwise();
        testNeedlesAre0To5();
        testMirrorsAreOffForGood();
        testSpringsDriftSinceTheyWereTied();
        testReadingAddsAll();
        testGapGoesAlongX();
    }

    private void testMonthsAreCountedFrom0() {
        checks.holds(PLACE, "Months are counted from 0.");
        Gravimere land = withTide(10, 2);
        checks.due("the tide of the first month", land.read(0, 0, 0), 10);
        checks.due("the month after one", land.pass(1), 1);
        checks.due("the tide of the second month", land.read(0, 0, 0), -10);
        Gravimere old = Lands.empty();
        Lands.passTo(old, 0, 2999);
        checks.due("the last month", old.pass(1), 3000);
    }

    /** A land with the tide, and with the needle 0, which is off by 0: it reads the tide. */
    private static Gravimere withTide(int strength, int period) {
        Gravimere land = Lands.empty();
        land.needle(Gravimere.MIRROR, 0);
        land.tide(strength, period);
        return land;
    }

    private void testStrengthIs0To1000000() {
        checks.holds(PLACE, "The tide has a strength, 0 to 1000000, 0 at first,");
        checks.due("the strength at first", Lands.empty().tide(1, 1), 0);
        Gravimere land = withTide(1000000, 60);
        checks.due("the greatest strength adds", land.read(0, 0, 0), 1000000);
        land.pass(30);
        checks.due("the greatest strength takes off", land.read(0, 0, 0), -1000000);
        checks.due("the greatest strength", land.tide(0, 60), 1000000);
        checks.due("the least strength", land.read(0, 0, 0), 0);
        for (int strength : new int[] {-1, 1000001}) {
            checks.refused(Checks.ARGUMENT, "the strength " + strength, Lands::some, on -> on.tide(strength, 12));
        }
    }

    private void testPeriodIs1To60() {
        checks.holds(PLACE, "and a period, 1 to 60, 1 at first:");
        Gravimere land = Lands.empty();
        land.needle(Gravimere.MIRROR, 0);
        for (int month = 0; month <= 61; month++) {
            // The period 1 at first: no month differs from another.
            checks.due("no tide in the month " + month, land.read(0, 0, 0), 0);
            land.pass(1);
        }
        checks.due("the period 1", land.tide(7, 1), 0);
        checks.due("the tide of the period 1", land.read(0, 0, 0), -7);
        checks.due("the period 60", land.tide(8, 60), 7);
        checks.due("the tide of the period 60", land.read(0, 0, 0), 8);
        for (int period : new int[] {0, 61}) {
            checks.refused(Checks.ARGUMENT, "the period " + period, Lands::some, on -> on.tide(300, period));
        }
    }

    private void testTideIsAddedBelowHalfOfThePeriod() {
        checks.holds(PLACE, "in a month it adds its strength, if the remainder of the month by the period is less than "
                + "half of the period, rounded down;");
        // A period, then months: the first and the last ones of a half, in the first periods and at the end.
        int[][] months = {
            {2, 0, 2, 4, 2998, 3000}, {3, 0, 3, 6, 2997, 3000}, {4, 0, 1, 4, 5, 2997, 3000}, {5, 0, 1, 5, 6, 2996, 3000},
            {7, 0, 2, 7, 9, 2996, 2998}, {59, 0, 28, 59, 87, 2950, 2978}, {60, 0, 29, 60, 89, 2969, 3000},
        };
        for (int[] row : months) {
            dueTide(row, 700);
        }
    }

    private void testTideIsTakenOffOtherwise() {
        checks.holds(PLACE, "otherwise it takes it off.");
        int[][] months = {
            {1, 0, 1, 2, 2999, 3000}, {2, 1, 3, 2999}, {3, 1, 2, 4, 5, 2998, 2999}, {4, 2, 3, 6, 7, 2998, 2999},
            {5, 2, 4, 7, 9, 2997, 2999}, {7, 3, 6, 10, 13, 2999, 3000}, {59, 29, 58, 88, 117, 2979, 3000},
            {60, 30, 59, 90, 119, 2970, 2999},
        };
        for (int[] row : months) {
            dueTide(row, -700);
        }
    }

    private void dueTide(int[] periodAndMonths, int due) {
        int period = periodAndMonths[0];
        Gravimere land = withTide(700, period);
        int month = 0;
        for (int at = 1; at < periodAndMonths.length; at++) {
            Lands.passTo(land, month, periodAndMonths[at]);
            month = periodAndMonths[at];
            checks.due("the tide of the period " + period + " in the month " + month, land.read(0, 5, 5), due);
        }
    }

    private void testNeedlesAre0To5() {
        checks.holds(PLACE, "Needles are numbered from 0, at most 6:");
        Gravimere land = Lands.empty();
        checks.dueThrow("read without a needle", Checks.INDEX, () -> land.read(0, 0, 0));
        checks.dueThrow("tie without a needle", Checks.INDEX, () -> land.tie(0));
        for (int number = 0; number < 6; number++) {
            int next = number + 1;
            checks.due("needle", land.needle(Gravimere.MIRROR, 100 * number), number);
            checks.due("read of the newest needle", land.read(number, 0, 0), 100 * number);
            checks.dueThrow("read of the needle " + next, Checks.INDEX, () -> land.read(next, 0, 0));
        }
        checks.dueThrow("the needle after 6", Checks.STATE, () -> land.needle(Gravimere.MIRROR, 0));
        for (int number = 0; number < 6; number++) {
            checks.due("read of the needle " + number, land.read(number, 0, 0), 100 * number);
        }
        checks.dueThrow("read of the needle 6", Checks.INDEX, () -> land.read(6, 0, 0));
        checks.dueThrow("read of the needle -1", Checks.INDEX, () -> land.read(-1, 0, 0));
    }

    private void testMirrorsAreOffForGood() {
        checks.holds(PLACE, "MIRRORS, which fall, are off by as much as told for each, for good;");
        Gravimere land = Lands.empty();
        Lands.passTo(land, 0, 5);
        int[] offs = {-1000, 1000, 0, -1};
        for (int off : offs) {
            land.needle(Gravimere.MIRROR, off);
        }
        for (int month : new int[] {5, 6, 3000}) {
            Lands.passTo(land, month == 6 ? 5 : Math.min(month, 6), month);
            for (int number = 0; number < offs.length; number++) {
                checks.due("a mirror in the month " + month, land.read(number, 0, 0), offs[number]);
            }
        }
        checks.dueThrow("tie of a mirror", Checks.STATE, () -> land.tie(0));
        checks.due("a mirror that was not tied", land.read(0, 0, 0), -1000);
    }

    private void testSpringsDriftSinceTheyWereTied() {
        checks.holds(PLACE, "SPRINGS drift by as much as told for each month since they were tied last, at first when they "
                + "were told.");
        Gravimere land = Lands.empty();
        land.needle(Gravimere.SPRING, 1000);
        land.needle(Gravimere.SPRING, -1000);
        land.needle(Gravimere.SPRING, 0);
        checks.due("a spring in the month in which it is told", land.read(0, 0, 0), 0);
        land.pass(1);
        checks.due("a spring a month later", land.read(0, 0, 0), 1000);
        checks.due("a spring that drifts down", land.read(1, 0, 0), -1000);
        Lands.passTo(land, 1, 2999);
        land.needle(Gravimere.SPRING, 9);
        checks.due("a spring told in the month 2999", land.read(3, 0, 0), 0);
        land.pass(1);
        checks.due("that spring in the month 3000", land.read(3, 0, 0), 9);
        checks.due("a spring in the month 3000", land.read(0, 0, 0), 3000000);
        checks.due("a spring that drifted down", land.read(1, 0, 0), -3000000);
        checks.due("a spring that does not drift", land.read(2, 0, 0), 0);
        checks.due("tie of it", land.tie(0), 3000000);
        checks.due("a spring that is tied", land.read(0, 0, 0), 0);
        checks.due("tie in the same month", land.tie(0), 0);
        checks.due("a spring beside one that is tied", land.read(1, 0, 0), -3000000);
        Gravimere tied = Lands.empty();
        tied.needle(Gravimere.SPRING, 10);
        tied.pass(3);
        tied.tie(0);
        checks.due("a spring in the month in which it is tied", tied.read(0, 0, 0), 0);
        tied.pass(1);
        checks.due("a spring a month after it was tied", tied.read(0, 0, 0), 10);
        tied.tie(0);
        tied.pass(2);
        checks.due("a spring since it was tied last", tied.read(0, 0, 0), 20);
    }

    private void testReadingAddsAll() {
        checks.holds(PLACE, "What a needle reads at a cell is the pull, the tide, and by how much it is off, together.");
        Gravimere least = Lands.empty();
        least.needle(Gravimere.SPRING, -1000);
        least.tide(1000000, 1);
        Lands.passTo(least, 0, 3000);
        checks.due("the least reading", least.read(0, 7, 7), -4000000);
        Gravimere most = Lands.empty();
        most.needle(Gravimere.SPRING, 1000);
        most.tide(1000000, 60);
        Lands.passTo(most, 0, 3000);
        Lands.fillBody(most);
        checks.due("the largest reading", most.read(0, 3, 3), Lands.pullOfFullBody(3, 3) + 4000000);
        checks.due("a reading at the last cell", most.read(0, 7, 7), Lands.pullOfFullBody(7, 7) + 4000000);
        Gravimere empty = Lands.empty();
        empty.needle(Gravimere.MIRROR, 0);
        checks.due("a reading of nothing", empty.read(0, 0, 0), 0);
    }

    private void testGapGoesAlongX() {
        checks.holds(PLACE, "Two craft chase each other along x: the gap at a cell is the pull at the cell with x 1 more, "
                + "less the pull there.");
        Gravimere land = Lands.empty();
        checks.due("the gap of an empty body", land.gap(6, 7), 0);
        land.mass(7, 7, 0, 100);
        checks.due("the last gap", land.gap(6, 7), 100000000 - 50000000);
        checks.due("the first gap", land.gap(0, 0), 100000000 / 86 - 100000000 / 99);
        land.mass(7, 7, 0, 0);
        land.mass(0, 0, 0, 100);
        checks.due("a gap below 0", land.gap(0, 0), 50000000 - 100000000);
        for (int row = 0; row < 8; row++) {
            int y = row;
            checks.dueThrow("the gap at 7, " + y, Checks.INDEX, () -> land.gap(7, y));
        }
        Gravimere full = Lands.empty();
        Lands.fillBody(full);
        checks.due("a gap of a full body", full.gap(2, 3), Lands.pullOfFullBody(3, 3) - Lands.pullOfFullBody(2, 3));
        checks.due("a gap of a full body, below 0", full.gap(6, 0),
                Lands.pullOfFullBody(7, 0) - Lands.pullOfFullBody(6, 0));
    }
}
