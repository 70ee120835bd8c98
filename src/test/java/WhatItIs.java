/** The document's words 'What it is': each part of what it tells, on one land, and the 512 calls. */
final class WhatItIs {
    private static final String PLACE = "What it is";

    private final Checks checks;
    private final Gravimere land = Lands.empty();

    WhatItIs(Checks checks) {
        this.checks = checks;
    }

    void test() {
        testBody();
        testTideNeedlesAndCraft();
        testHeights();
        testReleases();
        testOnceMore();
        testThe512thCall();
    }

    private void testBody() {
        checks.holds(PLACE, "Gravimere, the pull of a land to its last digit:");
        checks.due("the pull at first", land.pull(5, 4), 0);
        land.mass(3, 3, 0, 1);
        checks.due("the pull of 1 over the square 6, to its last digit", land.pull(5, 4), 166666);
        checks.holds(PLACE, "cells of a body with masses in layers and water on top,");
        checks.due("the mass in the layer 2", land.mass(3, 3, 2, 9), 0);
        checks.due("the water", land.water(3, 3, 2), 0);
        checks.due("the mass in the layer 0", land.mass(3, 3, 0, 7), 1);
        checks.due("the pull of all three", land.pull(3, 3), 7000000 + 1000000 + 2000000);
        checks.holds(PLACE, "pulls that are kept to the last digit,");
        land.mass(4, 4, 1, 40000000000L);
        land.mass(4, 4, 1, 0);
        checks.due("the pull after a mass that came and went", land.pull(3, 3), 10000000);
        checks.due("the pull beside", land.pull(4, 3), 3500000 + 900000 + 1000000);
    }

    private void testTideNeedlesAndCraft() {
        land.needle(Gravimere.SPRING, 5);
        land.release();
        checks.holds(PLACE, "a tide that goes with the months,");
        land.tide(100, 4);
        checks.due("the tide in the month 0", land.read(0, 3, 3), 10000000 + 100);
        land.pass(2);
        checks.due("the tide and the drift in the month 2", land.read(0, 3, 3), 10000000 - 100 + 10);
        checks.holds(PLACE, "needles that drift and are tied,");
        checks.due("tie", land.tie(0), 10);
        checks.due("the tied needle", land.read(0, 3, 3), 10000000 - 100);
        checks.holds(PLACE, "gaps between two craft that chase each other,");
        checks.due("the gap", land.gap(3, 3), 5400000 - 10000000);
    }

    private void testHeights() {
        checks.holds(PLACE, "benchmarks and lines with doubts,");
        for (int number = 0; number < 3; number++) {
            checks.due("benchmark", land.benchmark(), number);
        }
        checks.due("line", land.line(0, 2, 50, 9), 0);
        checks.due("the doubt by the only line", land.doubt(2), 9);
        checks.holds(PLACE, "heights by the surest lines,");
        land.line(0, 1, 10, 3);
        land.line(2, 1, 10, 5);
        checks.due("the height by the surer lines", land.height(2), 0);
        checks.due("the doubt by the surer lines", land.doubt(2), 8);
        checks.holds(PLACE, "lines that are in conflict,");
        checks.due("isInConflict, off by 50, with 17 of doubt", land.isInConflict(0), true);
        checks.due("isInConflict of a line that found a height", land.isInConflict(2), false);
    }

    private void testReleases() {
        checks.holds(PLACE, "releases and trends,");
        land.mass(3, 3, 0, 0);
        checks.due("release", land.release(), 1);
        checks.due("the trend", land.trend(0, 1, 3, 3), -3500000);
    }

    private void testOnceMore() {
        checks.holds(PLACE, "and pulls and doubts once more by direct sums and by all lines.");
        checks.due("pullAnew", land.pullAnew(3, 3), 3000000);
        checks.due("pullAnew beside", land.pullAnew(4, 3), land.pull(4, 3));
        checks.due("doubtAnew", land.doubtAnew(2), 8);
    }

    private void testThe512thCall() {
        checks.holds("What it is", "An object is used for at most 512 calls after it has been made;");
        checks.due("mass, the call 512", after511Masses().mass(7, 7, 511 % 3, 0), 511);
        checks.due("pull, the call 512", after511Masses().pull(3, 4), after511Masses().pullAnew(3, 4));
        Gravimere refused = Lands.empty();
        for (int call = 1; call <= 511; call++) {
            checks.dueThrow("the call " + call, Checks.INDEX, () -> refused.tie(0));
        }
        checks.due("needle, the call 512 of one that was refused all", refused.needle(Gravimere.SPRING, 1), 0);
    }

    private static Gravimere after511Masses() {
        Gravimere land = Lands.empty();
        for (int call = 1; call <= 511; call++) {
            land.mass(call % 8, call / 64, call % 3, call);
        }
        return land;
    }
}
