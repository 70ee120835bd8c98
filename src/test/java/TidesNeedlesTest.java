/** Promises 7 to 11: tide, pass, needle, tie, read. */
public final class TidesNeedlesTest {
    private static final Checks checks = new Checks("TidesNeedlesTest");

    public static void main(String[] args) {
        testTideAnswersTheStrengthBefore();
        testTideAtFirst();
        testTideByMonths();
        testTideIsThatToldLast();
        testPass();
        testLastMonth();
        testNeedleNumbers();
        testMirror();
        testSpring();
        testTie();
        testReadAddsAll();
        checks.finish();
    }

    private static void testTideAnswersTheStrengthBefore() {
        Gravimere land = new Gravimere();
        checks.due("tide, first", land.tide(1000000, 60), 0);
        checks.due("tide, least", land.tide(0, 1), 1000000);
        checks.due("tide, again", land.tide(3, 2), 0);
        checks.due("tide, alike", land.tide(3, 2), 3);
    }

    private static void testTideAtFirst() {
        Gravimere land = new Gravimere();
        land.needle(Gravimere.MIRROR, 0);
        checks.due("no tide in the month 0", land.read(0, 0, 0), 0);
        land.pass(1);
        checks.due("no tide in the month 1", land.read(0, 0, 0), 0);
    }

    private static void testTideByMonths() {
        int[] periods = {1, 2, 3, 4, 5, 12, 59, 60};
        for (int period : periods) {
            Gravimere land = new Gravimere();
            land.needle(Gravimere.MIRROR, 0);
            land.tide(700, period);
            // Two periods, month by month: half of an odd period is rounded down.
            for (int month = 0; month <= 2 * period; month++) {
                int rest = month;
                while (rest >= period) {
                    rest -= period;
                }
                int half = 0;
                while (2 * (half + 1) <= period) {
                    half++;
                }
                String call = "read in the month " + month + ", period " + period;
                checks.due(call, land.read(0, 4, 4), rest < half ? 700 : -700);
                land.pass(1);
            }
        }
    }

    private static void testTideIsThatToldLast() {
        Gravimere land = new Gravimere();
        land.needle(Gravimere.MIRROR, 0);
        land.tide(10, 4);
        checks.due("the tide 10", land.read(0, 0, 0), 10);
        land.pass(2);
        checks.due("the tide 10 later", land.read(0, 0, 0), -10);
        land.tide(20, 6);
        checks.due("the tide 20 in the month 2", land.read(0, 0, 0), 20);
    }

    private static void testPass() {
        Gravimere land = new Gravimere();
        checks.due("pass, least", land.pass(1), 1);
        checks.due("pass, most", land.pass(120), 121);
        checks.dueThrow("pass 0", Checks.ARGUMENT, () -> land.pass(0));
        checks.dueThrow("pass 121", Checks.ARGUMENT, () -> land.pass(121));
        checks.due("pass after refusals", land.pass(2), 123);
    }

    private static void testLastMonth() {
        Gravimere land = new Gravimere();
        for (int round = 1; round <= 24; round++) {
            checks.due("pass 120", land.pass(120), 120 * round);
        }
        checks.due("pass to 2999", land.pass(119), 2999);
        checks.dueThrow("pass beyond 3000", Checks.STATE, () -> land.pass(2));
        checks.dueThrow("pass far beyond 3000", Checks.STATE, () -> land.pass(120));
        checks.due("pass to 3000", land.pass(1), 3000);
        checks.dueThrow("pass in the month 3000", Checks.STATE, () -> land.pass(1));
        checks.dueThrow("pass 0 in the month 3000", Checks.ARGUMENT, () -> land.pass(0));
        checks.dueThrow("pass 121 in the month 3000", Checks.ARGUMENT, () -> land.pass(121));
        checks.dueThrow("pass all ints", Checks.ARGUMENT, () -> land.pass(Integer.MAX_VALUE));
    }

    private static void testNeedleNumbers() {
        Gravimere land = new Gravimere();
        for (int number = 0; number < 6; number++) {
            int n = number;
            checks.dueThrow("read before needle " + n, Checks.INDEX, () -> land.read(n, 0, 0));
            checks.due("needle", land.needle(number % 2, 0), number);
        }
        checks.dueThrow("the seventh needle", Checks.STATE, () -> land.needle(0, 0));
        checks.dueThrow("the seventh needle, of no kind", Checks.ARGUMENT, () -> land.needle(2, 0));
        checks.dueThrow("the seventh needle, too far off", Checks.ARGUMENT, () -> land.needle(0, 1001));
        checks.dueThrow("read of the needle 6", Checks.INDEX, () -> land.read(6, 0, 0));
        checks.due("read of the needle 5", land.read(5, 0, 0), 0);
    }

    private static void testMirror() {
        Gravimere land = new Gravimere();
        land.pass(9);
        land.needle(Gravimere.MIRROR, -1000);
        land.needle(Gravimere.MIRROR, 1000);
        checks.due("a mirror", land.read(0, 0, 0), -1000);
        land.pass(100);
        checks.due("a mirror for good", land.read(0, 0, 0), -1000);
        checks.due("another mirror", land.read(1, 0, 0), 1000);
        checks.dueThrow("tie of a mirror", Checks.STATE, () -> land.tie(0));
        checks.dueThrow("tie of none", Checks.INDEX, () -> land.tie(2));
        checks.dueThrow("tie of -1", Checks.INDEX, () -> land.tie(-1));
        checks.due("a mirror after all", land.read(0, 0, 0), -1000);
    }

    private static void testSpring() {
        Gravimere land = new Gravimere();
        land.pass(50);
        land.needle(Gravimere.SPRING, 1000);
        land.needle(Gravimere.SPRING, -3);
        checks.due("a spring as it is told", land.read(0, 0, 0), 0);
        land.pass(7);
        checks.due("a spring after 7 months", land.read(0, 0, 0), 7000);
        checks.due("a spring that goes down", land.read(1, 0, 0), -21);
        land.needle(Gravimere.SPRING, 2);
        land.pass(1);
        checks.due("a spring of another month", land.read(2, 0, 0), 2);
        checks.due("the first spring still", land.read(0, 0, 0), 8000);
    }

    private static void testTie() {
        Gravimere land = new Gravimere();
        land.needle(Gravimere.SPRING, -1000);
        land.needle(Gravimere.SPRING, 5);
        checks.due("tie at once", land.tie(0), 0);
        for (int round = 0; round < 25; round++) {
            land.pass(120);
        }
        checks.due("tie after 3000 months", land.tie(0), -3000000);
        checks.due("read of a tied one", land.read(0, 0, 0), 0);
        checks.due("tie again", land.tie(0), 0);
        checks.due("the other one is not tied", land.read(1, 0, 0), 15000);
        Gravimere young = new Gravimere();
        young.needle(Gravimere.SPRING, 10);
        young.pass(3);
        checks.due("tie after 3 months", young.tie(0), 30);
        young.pass(4);
        checks.due("read 4 months after the tie", young.read(0, 0, 0), 40);
        checks.due("tie 4 months after the tie", young.tie(0), 40);
    }

    private static void testReadAddsAll() {
        Gravimere land = new Gravimere();
        land.mass(2, 6, 1, 12);
        land.water(2, 6, 1);
        land.tide(500, 12);
        land.needle(Gravimere.MIRROR, 7);
        land.needle(Gravimere.SPRING, 9);
        checks.due("a mirror's reading", land.read(0, 2, 6), 3000000 + 1000000 + 500 + 7);
        checks.due("a spring's reading", land.read(1, 2, 6), 3000000 + 1000000 + 500);
        land.pass(6);
        checks.due("a mirror's later reading", land.read(0, 2, 6), 3000000 + 1000000 - 500 + 7);
        checks.due("a spring's later reading", land.read(1, 2, 6), 3000000 + 1000000 - 500 + 54);
        checks.due("a reading elsewhere", land.read(0, 6, 2), 12000000 / 36 + 1000000 / 33 - 500 + 7);
        checks.due("the pull has no tide", land.pull(2, 6), 4000000);
        checks.dueThrow("read at 8", Checks.INDEX, () -> land.read(0, 8, 0));
        checks.dueThrow("read at row -1", Checks.INDEX, () -> land.read(0, 0, -1));
        checks.dueThrow("read of the needle -1", Checks.INDEX, () -> land.read(-1, 0, 0));
    }
}
