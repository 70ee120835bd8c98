/** The sentences of the document's Terms under 'Exceptions', and the constants. */
final class TermsOfExceptions {
    private static final String PLACE = "Exceptions";
    private static final int FAR = Checks.FAR;
    private static final int LOW = Checks.LOW;

    private final Checks checks;

    TermsOfExceptions(Checks checks) {
        this.checks = checks;
    }

    void test() {
        testIndexOutOfBounds();
        testIllegalArgument();
        testIllegalState();
        testFirstOfSeveralIsThrown();
        testCallThatThrowsChangesNothing();
        testConstantNone();
        testConstantsOfNeedles();
    }

    private void testIndexOutOfBounds() {
        checks.holds(PLACE, "IndexOutOfBoundsException: there is no such cell, layer, needle, benchmark, line or release.");
        for (int none : new int[] {-1, 8, FAR, LOW}) {
            checks.refused(Checks.INDEX, "pull at x " + none, Lands::some, on -> on.pull(none, 0));
            checks.refused(Checks.INDEX, "pull at y " + none, Lands::some, on -> on.pull(0, none));
        }
        for (int none : new int[] {-1, 3, FAR, LOW}) {
            checks.refused(Checks.INDEX, "the layer " + none, Lands::some, on -> on.mass(0, 0, none, 0));
            checks.refused(Checks.INDEX, "the needle " + none, Lands::some, on -> on.tie(none));
            checks.refused(Checks.INDEX, "the release " + none, Lands::some, on -> on.trend(0, none, 0, 0));
        }
        for (int none : new int[] {-1, 4, FAR, LOW}) {
            checks.refused(Checks.INDEX, "the benchmark " + none, Lands::some, on -> on.height(none));
            checks.refused(Checks.INDEX, "the line " + none, Lands::some, on -> on.isInConflict(none) ? 1 : 0);
        }
        // As many as there may be: the first one beyond.
        checks.refused(Checks.INDEX, "the needle 6", Lands::full, on -> on.read(6, 0, 0));
        checks.refused(Checks.INDEX, "the benchmark 10", Lands::full, on -> on.doubt(10));
        checks.refused(Checks.INDEX, "the line 24", Lands::full, on -> on.isInConflict(24) ? 1 : 0);
        checks.refused(Checks.INDEX, "the release 12", Lands::full, on -> on.trend(12, 0, 0, 0));
        // None yet.
        checks.refused(Checks.INDEX, "the needle 0", Lands::empty, on -> on.read(0, 0, 0));
        checks.refused(Checks.INDEX, "the benchmark 0", Lands::empty, on -> on.doubtAnew(0));
        checks.refused(Checks.INDEX, "the line 0", Lands::empty, on -> on.isInConflict(0) ? 1 : 0);
        checks.refused(Checks.INDEX, "the release 0", Lands::empty, on -> on.trend(0, 0, 0, 0));
    }

    private void testIllegalArgument() {
        checks.holds(PLACE, "IllegalArgumentException: another argument is out of its range.");
        for (long mass : new long[] {-1, 40000000001L, Long.MAX_VALUE, Long.MIN_VALUE}) {
            checks.refused(Checks.ARGUMENT, "the mass " + mass, Lands::some, on -> on.mass(7, 7, 2, mass));
        }
        for (long water : new long[] {-1, 1000000001L, 4294967296L, Long.MAX_VALUE, Long.MIN_VALUE}) {
            checks.refused(Checks.ARGUMENT, "the water " + water, Lands::some, on -> on.water(7, 7, water));
        }
        for (int value : new int[] {FAR, LOW}) {
            checks.refused(Checks.ARGUMENT, "the strength " + value, Lands::some, on -> on.tide(value, 1));
            checks.refused(Checks.ARGUMENT, "the period " + value, Lands::some, on -> on.tide(0, value));
            checks.refused(Checks.ARGUMENT, "the months " + value, Lands::some, on -> on.pass(value));
            checks.refused(Checks.ARGUMENT, "the kind " + value, Lands::some, on -> on.needle(value, 0));
            checks.refused(Checks.ARGUMENT, "off by " + value, Lands::some, on -> on.needle(Gravimere.MIRROR, value));
            checks.refused(Checks.ARGUMENT, "higher by " + value, Lands::some, on -> on.line(3, 0, value, 0));
            checks.refused(Checks.ARGUMENT, "the doubt " + value, Lands::some, on -> on.line(3, 0, 0, value));
        }
    }

    private void testIllegalState() {
        checks.holds(PLACE, "IllegalStateException: as the method tells.");
        checks.refused(Checks.STATE, "pass in the last month", Lands::full, on -> on.pass(1));
        checks.refused(Checks.STATE, "the needle after 6", Lands::full, on -> on.needle(Gravimere.SPRING, 0));
        checks.refused(Checks.STATE, "tie of a mirror", Lands::full, on -> on.tie(4));
        checks.refused(Checks.STATE, "the benchmark after 10", Lands::full, Gravimere::benchmark);
        checks.refused(Checks.STATE, "the line after 24", Lands::full, on -> on.line(0, 1, 0, 0));
        checks.refused(Checks.STATE, "height of one without", Lands::some, on -> on.height(3));
        checks.refused(Checks.STATE, "the release after 12", Lands::full, Gravimere::release);
        checks.refused(Checks.STATE, "trend of one month", Lands::some, on -> on.trend(1, 2, 0, 0));
    }

    private void testFirstOfSeveralIsThrown() {
        checks.holds(PLACE, "If several apply, the one that is named first in the throws clause is thrown;");
        checks.refused(Checks.INDEX, "mass: cell and mass", Lands::some, on -> on.mass(8, 0, 0, -1));
        checks.refused(Checks.INDEX, "mass: layer and mass", Lands::some, on -> on.mass(0, 0, 3, 40000000001L));
        checks.refused(Checks.INDEX, "water: cell and water", Lands::some, on -> on.water(0, -1, 1000000001L));
        checks.refused(Checks.ARGUMENT, "pass: none in the last month", Lands::full, on -> on.pass(0));
        checks.refused(Checks.ARGUMENT, "pass: 121 in the last month", Lands::full, on -> on.pass(121));
        checks.refused(Checks.ARGUMENT, "needle: kind, of 6", Lands::full, on -> on.needle(2, 0));
        checks.refused(Checks.ARGUMENT, "needle: off, of 6", Lands::full, on -> on.needle(0, -1001));
        checks.refused(Checks.INDEX, "line: from, higher", Lands::some, on -> on.line(4, 0, 1000001, 0));
        checks.refused(Checks.INDEX, "line: to, doubt", Lands::some, on -> on.line(0, 4, 0, -1));
        checks.refused(Checks.INDEX, "line: from is to, and no benchmark", Lands::some, on -> on.line(4, 4, 0, 0));
        checks.refused(Checks.INDEX, "line: from, of 24", Lands::full, on -> on.line(-1, 0, 0, 0));
        checks.refused(Checks.INDEX, "line: to, of 24", Lands::full, on -> on.line(0, 10, 0, 0));
        checks.refused(Checks.ARGUMENT, "line: from is to, of 24", Lands::full, on -> on.line(2, 2, 0, 0));
        checks.refused(Checks.ARGUMENT, "line: higher, of 24", Lands::full, on -> on.line(0, 9, -1000001, 0));
        checks.refused(Checks.ARGUMENT, "line: doubt, of 24", Lands::full, on -> on.line(0, 9, 0, 1001));
        checks.refused(Checks.INDEX, "line: to, higher, doubt, of 24", Lands::full, on -> on.line(0, 10, FAR, FAR));
        checks.refused(Checks.INDEX, "trend: no release, to itself", Lands::some, on -> on.trend(3, 3, 0, 0));
        checks.refused(Checks.INDEX, "trend: x, of one month", Lands::some, on -> on.trend(1, 2, 8, 0));
        checks.refused(Checks.INDEX, "trend: y, of one month", Lands::some, on -> on.trend(0, 0, 0, -1));
        checks.refused(Checks.INDEX, "read: needle and cell", Lands::some, on -> on.read(3, 8, 8));
    }

    private void testCallThatThrowsChangesNothing() {
        checks.holds(PLACE, "a call that throws changes nothing.");
        Gravimere land = Lands.some();
        throwAllOn(land);
        checks.due("all that can be asked after refusals", Lands.allAnswers(land), Lands.allAnswers(Lands.some()));
        Gravimere full = Lands.full();
        throwAllOn(full);
        checks.due("all that can be asked of a full one", Lands.allAnswers(full), Lands.allAnswers(Lands.full()));
        Gravimere empty = Lands.empty();
        throwAllOn(empty);
        checks.due("all that can be asked of an empty one", Lands.allAnswers(empty), Lands.allAnswers(Lands.empty()));
    }

    // Each call is refused on each of the three lands.
    private void throwAllOn(Gravimere land) {
        Checks.On[] calls = {
            on -> on.mass(1, 2, 0, -1), on -> on.mass(1, 2, 3, 5), on -> on.mass(-1, 2, 0, 5),
            on -> on.water(6, 5, 1000000001L), on -> on.water(6, 8, 5), on -> on.pull(8, 0), on -> on.pullAnew(0, 8),
            on -> on.gap(7, 0), on -> on.tide(1000001, 5), on -> on.tide(5, 61), on -> on.tide(5, 0), on -> on.pass(121),
            on -> on.needle(2, 5), on -> on.needle(1, 1001), on -> on.tie(0), on -> on.tie(6), on -> on.read(-1, 0, 0),
            on -> on.line(0, 10, 5, 5), on -> on.line(-1, 0, 5, 5), on -> on.height(10), on -> on.doubt(-1),
            on -> on.doubtAnew(10), on -> on.isInConflict(24) ? 1 : 0, on -> on.trend(0, 0, 0, 0),
        };
        for (int number = 0; number < calls.length; number++) {
            Checks.On call = calls[number];
            String outcome = Checks.outcome(() -> call.land(land));
            checks.due("whether the call " + number + " throws", outcome.startsWith("throws."), true);
        }
    }

    private void testConstantNone() {
        checks.holds(PLACE, "The constants: `NONE = -1`: There is none.");
        checks.due("NONE", Gravimere.NONE, -1);
        checks.due("the doubt of one that cannot be found", Lands.withBenchmarks(2).doubt(1), Gravimere.NONE);
    }

    private void testConstantsOfNeedles() {
        checks.holds(PLACE, "`MIRROR = 0, SPRING = 1`: Needles.");
        checks.due("MIRROR", Gravimere.MIRROR, 0);
        checks.due("SPRING", Gravimere.SPRING, 1);
        Gravimere land = Lands.empty();
        land.needle(0, 5);
        land.needle(1, 5);
        checks.due("the needle of the kind 0", land.read(0, 0, 0), 5);
        checks.due("the needle of the kind 1", land.read(1, 0, 0), 0);
    }
}
