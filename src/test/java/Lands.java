import java.math.BigInteger;
import java.util.ArrayList;
import java.util.List;

/** Lands that tests begin with, and all that can be asked of one. */
final class Lands {
    static final long MOST_MASS = 40000000000L;
    static final long MOST_WATER = 1000000000L;

    private Lands() {
    }

    /** 2 mirrors and 1 spring, 4 benchmarks, 4 lines, 3 releases (two of one month), month 8. */
    static Gravimere some() {
        Gravimere land = new Gravimere();
        land.mass(1, 2, 0, 1001);
        land.mass(1, 2, 2, 77);
        land.water(6, 5, 31);
        land.release();
        land.tide(300, 12);
        land.needle(Gravimere.MIRROR, -9);
        land.pass(3);
        land.needle(Gravimere.SPRING, 4);
        land.mass(7, 0, 1, 5000);
        land.release();
        land.release();
        land.pass(5);
        land.needle(Gravimere.MIRROR, 8);
        for (int number = 0; number < 4; number++) {
            land.benchmark();
        }
        land.line(0, 1, 10, 2);
        land.line(2, 1, 10, 2);
        land.line(2, 0, 900, 9);
        land.line(1, 0, 10, 3);
        return land;
    }

    /** As many needles, benchmarks, lines and releases as there may be, in the last month. */
    static Gravimere full() {
        Gravimere land = new Gravimere();
        land.tide(50, 7);
        for (int number = 0; number < 6; number++) {
            land.needle(number % 2, 10 * number);
        }
        for (int number = 0; number < 10; number++) {
            land.benchmark();
        }
        for (int number = 0; number < 24; number++) {
            land.line(number % 9, number % 9 + 1, 10 * number, 50 - number);
        }
        for (int round = 0; round < 25; round++) {
            if (round >= 13) {
                land.mass(round % 8, 3, round % 3, 1000L * round);
                land.release();
            }
            land.pass(120);
        }
        return land;
    }

    static Gravimere empty() {
        return new Gravimere();
    }

    static Gravimere withBenchmarks(int count) {
        Gravimere land = new Gravimere();
        for (int number = 0; number < count; number++) {
            land.benchmark();
        }
        return land;
    }

    static void passTo(Gravimere land, int from, int to) {
        int month = from;
        while (month < to) {
            month = land.pass(Math.min(120, to - month));
        }
    }

    /** All masses and waters as large as they may be. */
    static void fillBody(Gravimere land) {
        for (int cell = 0; cell < 64; cell++) {
            for (int layer = 0; layer < 3; layer++) {
                land.mass(cell % 8, cell / 8, layer, MOST_MASS);
            }
            land.water(cell % 8, cell / 8, MOST_WATER);
        }
    }

    /** The pull of such a body, summed without a limit of digits. */
    static long pullOfFullBody(int x, int y) {
        BigInteger sum = BigInteger.ZERO;
        for (int column = 0; column < 8; column++) {
            for (int row = 0; row < 8; row++) {
                int flat = (x - column) * (x - column) + (y - row) * (y - row);
                sum = sum.add(pullOf(MOST_WATER, flat + 1)).add(pullOf(MOST_MASS, flat + 1))
                        .add(pullOf(MOST_MASS, flat + 4)).add(pullOf(MOST_MASS, flat + 9));
            }
        }
        return sum.longValueExact();
    }

    private static BigInteger pullOf(long mass, int square) {
        return BigInteger.valueOf(mass).multiply(BigInteger.valueOf(1000000)).divide(BigInteger.valueOf(square));
    }

    /**
     * What some 380 questions answer, all of the state among them: two lands that were made alike answer
     * alike. The questions change the land; with those that made it they stay within its 512 calls.
     */
    static List<String> allAnswers(Gravimere land) {
        List<String> answers = new ArrayList<>();
        askWithoutChange(land, answers);
        askMonthByMonth(land, answers);
        askCounts(land, answers);
        for (int cell = 0; cell < 64; cell++) {
            int x = cell % 8;
            int y = cell / 8;
            answers.add(Checks.outcome(() -> land.water(x, y, 0)));
            for (int layer = 0; layer < 3; layer++) {
                int depth = layer;
                answers.add(Checks.outcome(() -> land.mass(x, y, depth, 0)));
            }
        }
        return answers;
    }

    private static void askWithoutChange(Gravimere land, List<String> answers) {
        for (int place = 0; place < 8; place++) {
            int x = place;
            answers.add(Checks.outcome(() -> land.pull(x, 7 - x)));
            answers.add(Checks.outcome(() -> land.pullAnew(x, x)));
        }
        for (int number = 0; number <= 24; number++) {
            int n = number;
            answers.add(Checks.outcome(() -> land.isInConflict(n) ? 1 : 0));
            if (n <= 10) {
                answers.add(Checks.outcome(() -> land.height(n)));
                answers.add(Checks.outcome(() -> land.doubt(n)));
                answers.add(Checks.outcome(() -> land.doubtAnew(n)));
            }
            if (n <= 12) {
                answers.add(Checks.outcome(() -> land.trend(n, n == 0 ? 1 : 0, n % 8, 7 - n % 5)));
            }
        }
    }

    // The tide's period shows in no single month.
    private static void askMonthByMonth(Gravimere land, List<String> answers) {
        for (int round = 0; round <= 12; round++) {
            answers.add(Checks.outcome(() -> land.read(0, 3, 4)));
            answers.add(Checks.outcome(() -> land.pass(1)));
        }
        for (int number = 0; number <= 6; number++) {
            int n = number;
            answers.add(Checks.outcome(() -> land.read(n, 4, 3)));
            answers.add(Checks.outcome(() -> land.tie(n)));
        }
    }

    private static void askCounts(Gravimere land, List<String> answers) {
        answers.add(Checks.outcome(() -> land.tide(0, 1)));
        answers.add(Checks.outcome(() -> land.needle(Gravimere.MIRROR, 0)));
        answers.add(Checks.outcome(land::benchmark));
        answers.add(Checks.outcome(() -> land.line(0, 1, 0, 0)));
        answers.add(Checks.outcome(land::release));
    }
}
