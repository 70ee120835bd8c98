import java.util.ArrayList;
import java.util.List;

/** Counts answers that are not the ones that are due, and ends a test by them. */
final class Checks {
    /** A call of the face; a boolean answer counts 1 or 0. */
    interface Call {
        long answer();
    }

    static final Class<? extends RuntimeException> INDEX = IndexOutOfBoundsException.class;
    static final Class<? extends RuntimeException> ARGUMENT = IllegalArgumentException.class;
    static final Class<? extends RuntimeException> STATE = IllegalStateException.class;

    private final String test;
    private int checks = 0;
    private int wrong = 0;

    Checks(String test) {
        this.test = test;
    }

    void due(String call, long got, long want) {
        due(call, Long.toString(got), Long.toString(want));
    }

    void due(String call, Object got, Object want) {
        checks++;
        if (!got.equals(want)) {
            wrong++;
            System.out.println(test + ": " + call + " answered " + got + ", due is " + want);
        }
    }

    /** The call must throw just this class of exception: none below it, as the machine throws them. */
    void dueThrow(String call, Class<? extends RuntimeException> want, Call made) {
        due(call, outcome(made), "throws." + want.getSimpleName());
    }

    static String outcome(Call made) {
        try {
            return Long.toString(made.answer());
        } catch (RuntimeException thrown) {
            return "throws." + thrown.getClass().getSimpleName();
        }
    }

    /** What some 100 questions answer: alike before and after a call that changes nothing. */
    static List<String> stateOf(Gravimere land) {
        List<String> answers = new ArrayList<>();
        for (int place = 0; place < 8; place += 2) {
            int x = place;
            answers.add(outcome(() -> land.pull(x, 7 - x)));
            answers.add(outcome(() -> land.pullAnew(7 - x, x)));
        }
        for (int number = 0; number <= 24; number++) {
            int n = number;
            answers.add(outcome(() -> land.isInConflict(n) ? 1 : 0));
            if (n <= 6) {
                answers.add(outcome(() -> land.read(n, 3, 4)));
            }
            if (n <= 10) {
                answers.add(outcome(() -> land.height(n)));
                answers.add(outcome(() -> land.doubt(n)));
                answers.add(outcome(() -> land.doubtAnew(n)));
            }
            if (n <= 12) {
                answers.add(outcome(() -> land.trend(n, 0, 5, 5)));
            }
        }
        return answers;
    }

    void finish() {
        System.out.println(test + ": " + checks + " checks, " + wrong + " wrong");
        if (wrong != 0) {
            System.exit(1);
        }
    }
}
