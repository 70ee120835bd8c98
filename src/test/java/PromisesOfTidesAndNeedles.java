/** The sentences of the promises 7 to 11: tide, pass, needle, tie, read. */
final class PromisesOfTidesAndNeedles {
    private static final int FAR = Checks.FAR;
    private static final int LOW = Checks.LOW;

    private final Checks checks;

    PromisesOfTidesAndNeedles(Checks checks) {
        this.checks = checks;
    }

    void test() {
        test7TideIsTold();
        test7Strength();
        test7Period();
        test7ReturnsTheStrengthBefore();
        test7OutOfRange();
        test8MonthsGoBy();
        test8Months();
        test8ReturnsTheMonth();
        test8OutOfRange();
        test8NotAbove3000();
        test9NeedleIsTold();
        test9Kind();
        test9Off();
        test9ReturnsItsNumber();
        test9OutOfRange();
        test9NotAbove6();
        test10NeedleIsTied();
        test10ReturnsByHowMuchItWasOff();
        test10NoSuchNeedle();
        test10NoMirror();
        test11ReadsNow();
        test11NoSuchNeedleOrCell();
    }

    private void test7TideIsTold() {
        checks.holds("Promise 7: tide", "Tells the tide.");
        Gravimere land = Lands.empty();
        land.needle(Gravimere.MIRROR, 0);
        land.pass(2);
        land.tide(10, 6);
        checks.due("the tide of the month in which it is told", land.read(0, 0, 0), 10);
        land.tide(20, 4);
        checks.due("the tide that is told last", land.read(0, 0, 0), -20);
        land.pass(2);
        checks.due("the tide as the period wraps around", land.read(0, 0, 0), 20);
        land.tide(0, 4);
        checks.due("no tide again", land.read(0, 0, 0), 0);
    }

    private void test7Strength() {
        checks.holds("Promise 7: tide", "`strength`: 0 to 1000000");
        Gravimere land = Lands.empty();
        land.needle(Gravimere.MIRROR, 0);
        for (int strength : new int[] {0, 1, 999999, 1000000}) {
            land.tide(strength, 2);
            checks.due("the tide of the strength " + strength, land.read(0, 0, 0), strength);
        }
        checks.refused(Checks.ARGUMENT, "the strength -1", Lands::some, on -> on.tide(-1, 12));
        checks.refused(Checks.ARGUMENT, "the strength 1000001", Lands::some, on -> on.tide(1000001, 12));
    }

    private void test7Period() {
        checks.holds("Promise 7: tide", "`period`: 1 to 60");
        Gravimere land = Lands.empty();
        land.needle(Gravimere.MIRROR, 0);
        land.pass(29);
        // In the month 29: which of the periods add.
        int[][] adding = {{1, 0}, {2, 0}, {3, 0}, {4, 1}, {28, 1}, {29, 1}, {30, 0}, {58, 0}, {59, 0}, {60, 1}};
        for (int[] row : adding) {
            land.tide(5, row[0]);
            checks.due("the tide of the period " + row[0], land.read(0, 0, 0), row[1] == 1 ? 5 : -5);
        }
        checks.refused(Checks.ARGUMENT, "the period 0", Lands::some, on -> on.tide(300, 0));
        checks.refused(Checks.ARGUMENT, "the period 61", Lands::some, on -> on.tide(300, 61));
    }

    private void test7ReturnsTheStrengthBefore() {
        checks.holds("Promise 7: tide", "Returns the strength before.");
        Gravimere land = Lands.empty();
        int before = 0;
        for (int strength : new int[] {1000000, 1000000, 0, 0, 1}) {
            checks.due("tide " + strength, land.tide(strength, 60), before);
            before = strength;
        }
        checks.dueThrow("a tide out of range", Checks.ARGUMENT, () -> land.tide(5, 0));
        checks.due("tide after one that was refused", land.tide(3, 1), 1);
        land.pass(1);
        checks.due("tide after a month", land.tide(0, 1), 3);
    }

    private void test7OutOfRange() {
        checks.holds("Promise 7: tide", "Throws `IllegalArgumentException` if strength or period is out of range");
        for (int strength : new int[] {-1, 1000001, FAR, LOW}) {
            checks.refused(Checks.ARGUMENT, "the strength " + strength, Lands::some, on -> on.tide(strength, 60));
        }
        for (int period : new int[] {-1, 0, 61, FAR, LOW}) {
            checks.refused(Checks.ARGUMENT, "the period " + period, Lands::some, on -> on.tide(0, period));
            checks.refused(Checks.ARGUMENT, "both, the period " + period, Lands::some, on -> on.tide(-1, period));
        }
    }

    private void test8MonthsGoBy() {
        checks.holds("Promise 8: pass", "Lets months go by.");
        Gravimere land = Lands.empty();
        land.needle(Gravimere.SPRING, 1);
        for (int[] row : new int[][] {{1, 1}, {1, 2}, {120, 122}}) {
            land.pass(row[0]);
            checks.due("a spring that counts the months", land.read(0, 0, 0), row[1]);
        }
    }

    private void test8Months() {
        checks.holds("Promise 8: pass", "`months`: 1 to 120");
        checks.due("pass of 1", Lands.empty().pass(1), 1);
        checks.due("pass of 120", Lands.empty().pass(120), 120);
        checks.refused(Checks.ARGUMENT, "pass of 0", Lands::some, on -> on.pass(0));
        checks.refused(Checks.ARGUMENT, "pass of 121", Lands::some, on -> on.pass(121));
    }

    private void test8ReturnsTheMonth() {
        checks.holds("Promise 8: pass", "Returns the month.");
        Gravimere land = Lands.empty();
        for (int month = 1; month <= 10; month++) {
            checks.due("pass of 1", land.pass(1), month);
        }
        checks.due("pass of 120", land.pass(120), 130);
        checks.dueThrow("pass of 0", Checks.ARGUMENT, () -> land.pass(0));
        checks.due("pass after one that was refused", land.pass(2), 132);
    }

    private void test8OutOfRange() {
        checks.holds("Promise 8: pass", "Throws `IllegalArgumentException` if months is out of range");
        for (int months : new int[] {-1, 0, 121, FAR, LOW}) {
            checks.refused(Checks.ARGUMENT, "pass of " + months, Lands::empty, on -> on.pass(months));
            checks.refused(Checks.ARGUMENT, "pass of " + months, Lands::some, on -> on.pass(months));
            checks.refused(Checks.ARGUMENT, "pass of " + months + " in the last month", Lands::full,
                    on -> on.pass(months));
        }
    }

    private void test8NotAbove3000() {
        checks.holds("Promise 8: pass", "Throws `IllegalStateException` if it would be above 3000");
        Gravimere land = Lands.empty();
        Lands.passTo(land, 0, 2880);
        checks.due("pass of 120 to 3000", land.pass(120), 3000);
        Gravimere late = Lands.empty();
        Lands.passTo(late, 0, 2881);
        checks.dueThrow("pass of 120 to 3001", Checks.STATE, () -> late.pass(120));
        checks.due("pass of 118 to 2999", late.pass(118), 2999);
        checks.dueThrow("pass of 2 to 3001", Checks.STATE, () -> late.pass(2));
        checks.due("pass of 1 to 3000", late.pass(1), 3000);
        for (int months : new int[] {1, 2, 120}) {
            checks.refused(Checks.STATE, "pass of " + months + " beyond 3000", Lands::full, on -> on.pass(months));
        }
    }

    private void test9NeedleIsTold() {
        checks.holds("Promise 9: needle", "Tells a needle.");
        Gravimere land = Lands.empty();
        land.pass(4);
        land.needle(Gravimere.MIRROR, 7);
        land.needle(Gravimere.SPRING, 7);
        checks.due("a mirror as it is told", land.read(0, 0, 0), 7);
        checks.due("a spring as it is told", land.read(1, 0, 0), 0);
        land.pass(2);
        checks.due("a mirror 2 months later", land.read(0, 0, 0), 7);
        checks.due("a spring 2 months later", land.read(1, 0, 0), 14);
    }

    private void test9Kind() {
        checks.holds("Promise 9: needle", "`kind`: MIRROR or SPRING");
        Gravimere land = Lands.empty();
        checks.due("a mirror", land.needle(0, 3), 0);
        checks.due("a spring", land.needle(1, 3), 1);
        checks.dueThrow("tie of the mirror", Checks.STATE, () -> land.tie(0));
        checks.due("tie of the spring", land.tie(1), 0);
        checks.refused(Checks.ARGUMENT, "the kind -1", Lands::some, on -> on.needle(-1, 0));
        checks.refused(Checks.ARGUMENT, "the kind 2", Lands::some, on -> on.needle(2, 0));
    }

    private void test9Off() {
        checks.holds("Promise 9: needle", "`off`: -1000 to 1000: by how much it is off, or drifts in a month");
        Gravimere land = Lands.empty();
        int[] offs = {-1000, 1000, 0};
        for (int off : offs) {
            land.needle(Gravimere.MIRROR, off);
            land.needle(Gravimere.SPRING, off);
        }
        land.pass(1);
        for (int at = 0; at < offs.length; at++) {
            checks.due("a mirror off by " + offs[at], land.read(2 * at, 0, 0), offs[at]);
            checks.due("a spring that drifts by " + offs[at], land.read(2 * at + 1, 0, 0), offs[at]);
        }
        for (int off : new int[] {-1001, 1001}) {
            checks.refused(Checks.ARGUMENT, "a mirror off by " + off, Lands::some, on -> on.needle(0, off));
            checks.refused(Checks.ARGUMENT, "a spring off by " + off, Lands::some, on -> on.needle(1, off));
        }
    }

    private void test9ReturnsItsNumber() {
        checks.holds("Promise 9: needle", "Returns its number.");
        Gravimere land = Lands.empty();
        for (int number = 0; number < 6; number++) {
            checks.dueThrow("a needle of no kind", Checks.ARGUMENT, () -> land.needle(2, 0));
            checks.due("needle", land.needle(number / 3, number), number);
        }
        land.pass(1);
        for (int number = 0; number < 6; number++) {
            checks.due("read of the needle " + number, land.read(number, 0, 0), number);
        }
    }

    private void test9OutOfRange() {
        checks.holds("Promise 9: needle", "Throws `IllegalArgumentException` if kind or off is out of range");
        for (int kind : new int[] {-1, 2, FAR, LOW}) {
            checks.refused(Checks.ARGUMENT, "the kind " + kind, Lands::some, on -> on.needle(kind, 1000));
            checks.refused(Checks.ARGUMENT, "the kind " + kind + ", of 6", Lands::full, on -> on.needle(kind, 1000));
        }
        for (int off : new int[] {-1001, 1001, FAR, LOW}) {
            checks.refused(Checks.ARGUMENT, "off by " + off, Lands::some, on -> on.needle(Gravimere.MIRROR, off));
            checks.refused(Checks.ARGUMENT, "drifts by " + off, Lands::some, on -> on.needle(Gravimere.SPRING, off));
            checks.refused(Checks.ARGUMENT, "off by " + off + ", of 6", Lands::full, on -> on.needle(1, off));
        }
        checks.refused(Checks.ARGUMENT, "both", Lands::some, on -> on.needle(2, 1001));
    }

    private void test9NotAbove6() {
        checks.holds("Promise 9: needle", "Throws `IllegalStateException` if there are 6");
        Gravimere land = Lands.empty();
        for (int number = 0; number < 5; number++) {
            land.needle(Gravimere.MIRROR, 0);
        }
        checks.due("the needle after 5", land.needle(Gravimere.MIRROR, 0), 5);
        checks.dueThrow("the needle after 6", Checks.STATE, () -> land.needle(Gravimere.MIRROR, 0));
        checks.refused(Checks.STATE, "a mirror after 6", Lands::full, on -> on.needle(Gravimere.MIRROR, 1000));
        checks.refused(Checks.STATE, "a spring after 6", Lands::full, on -> on.needle(Gravimere.SPRING, -1000));
    }

    private void test10NeedleIsTied() {
        checks.holds("Promise 10: tie", "Ties a needle.");
        Gravimere land = Lands.empty();
        for (int number = 0; number < 6; number++) {
            land.needle(Gravimere.SPRING, 1 + number);
        }
        land.pass(10);
        land.tie(0);
        land.tie(5);
        checks.due("the first needle, tied", land.read(0, 0, 0), 0);
        checks.due("the last needle, tied", land.read(5, 0, 0), 0);
        checks.due("a needle that is not tied", land.read(1, 0, 0), 20);
        checks.due("another needle that is not tied", land.read(4, 0, 0), 50);
        land.pass(1);
        checks.due("the first needle a month later", land.read(0, 0, 0), 1);
        checks.due("the last needle a month later", land.read(5, 0, 0), 6);
        checks.due("a needle that is not tied, a month later", land.read(1, 0, 0), 22);
    }

    private void test10ReturnsByHowMuchItWasOff() {
        checks.holds("Promise 10: tie", "Returns by how much it was off.");
        Gravimere land = Lands.empty();
        land.needle(Gravimere.SPRING, 1000);
        land.needle(Gravimere.SPRING, -1000);
        land.needle(Gravimere.SPRING, 0);
        land.tide(1000000, 1);
        land.mass(0, 0, 0, 9);
        checks.due("tie in the month in which it is told", land.tie(0), 0);
        land.pass(1);
        checks.due("tie a month later", land.tie(0), 1000);
        checks.due("tie again in that month", land.tie(0), 0);
        Lands.passTo(land, 1, 3000);
        checks.due("tie in the month 3000", land.tie(0), 2999000);
        checks.due("tie of one that was not tied", land.tie(1), -3000000);
        checks.due("tie of one that does not drift", land.tie(2), 0);
    }

    private void test10NoSuchNeedle() {
        checks.holds("Promise 10: tie", "Throws `IndexOutOfBoundsException` as told");
        for (int needle : new int[] {-1, 3, 6, FAR, LOW}) {
            checks.refused(Checks.INDEX, "tie of " + needle, Lands::some, on -> on.tie(needle));
        }
        checks.refused(Checks.INDEX, "tie of 6, of 6", Lands::full, on -> on.tie(6));
        checks.refused(Checks.INDEX, "tie of 0, of none", Lands::empty, on -> on.tie(0));
    }

    private void test10NoMirror() {
        checks.holds("Promise 10: tie", "Throws `IllegalStateException` if it is a MIRROR");
        checks.refused(Checks.STATE, "tie of the first mirror", Lands::some, on -> on.tie(0));
        checks.refused(Checks.STATE, "tie of the last mirror", Lands::some, on -> on.tie(2));
        Gravimere exact = Lands.empty();
        exact.needle(Gravimere.MIRROR, 0);
        checks.dueThrow("tie of a mirror that is not off", Checks.STATE, () -> exact.tie(0));
    }

    private void test11ReadsNow() {
        checks.holds("Promise 11: read", "Returns what a needle reads at a cell now.");
        Gravimere land = Lands.empty();
        land.needle(Gravimere.MIRROR, -1000);
        land.needle(Gravimere.SPRING, 1000);
        checks.due("read of nothing", land.read(1, 0, 0), 0);
        land.mass(7, 7, 0, 1);
        land.tide(100, 3);
        checks.due("a mirror in the month 0", land.read(0, 7, 7), 1000000 + 100 - 1000);
        checks.due("a mirror in the month 0, across", land.read(0, 0, 0), 10101 + 100 - 1000);
        land.pass(1);
        checks.due("a spring in the month 1", land.read(1, 7, 7), 1000000 - 100 + 1000);
        land.pass(1);
        land.mass(7, 7, 0, 0);
        checks.due("a spring in the month 2, without the mass", land.read(1, 7, 7), -100 + 2000);
        land.pass(1);
        checks.due("a spring as the period wraps around", land.read(1, 7, 7), 100 + 3000);
        land.tie(1);
        checks.due("a spring that is tied", land.read(1, 7, 7), 100);
        checks.due("reading changes nothing", land.read(1, 7, 7), 100);
    }

    private void test11NoSuchNeedleOrCell() {
        checks.holds("Promise 11: read", "Throws `IndexOutOfBoundsException` as told, of the needle or the cell");
        for (int needle : new int[] {-1, 3, 6, FAR, LOW}) {
            checks.refused(Checks.INDEX, "read of " + needle, Lands::some, on -> on.read(needle, 0, 0));
            checks.refused(Checks.INDEX, "read of " + needle + " nowhere", Lands::some, on -> on.read(needle, 8, -1));
        }
        for (int none : new int[] {-1, 8, FAR, LOW}) {
            checks.refused(Checks.INDEX, "read at x " + none, Lands::some, on -> on.read(0, none, 0));
            checks.refused(Checks.INDEX, "read at y " + none, Lands::some, on -> on.read(2, 7, none));
        }
        checks.refused(Checks.INDEX, "read of 6, of 6", Lands::full, on -> on.read(6, 0, 0));
        checks.refused(Checks.INDEX, "read of 0, of none", Lands::empty, on -> on.read(0, 0, 0));
    }
}
