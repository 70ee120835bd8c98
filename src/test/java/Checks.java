import java.util.List;

/** Counts answers that are not the ones that are due, and ends a test by them. */
final class Checks {
    /** A call of the face; a boolean answer counts 1 or 0. */
    interface Call {
        long answer();
    }

    /** A call of the face on a land that is given. */
    interface On {
        long land(Gravimere land);
    }

    /** Makes a land, each time alike. */
    interface Made {
        Gravimere land();
    }

    static final Class<? extends RuntimeException> INDEX = IndexOutOfBoundsException.class;
    static final Class<? extends RuntimeException> ARGUMENT = IllegalArgumentException.class;
    static final Class<? extends RuntimeException> STATE = IllegalStateException.class;
    static final int FAR = Integer.MAX_VALUE;
    static final int LOW = Integer.MIN_VALUE;

    private final String test;
    private final Document document;
    private String sentence = "";
    private int checks = 0;
    private int checksOfSentence = 1;
    private int wrong = 0;

    Checks(String test) {
        this(test, null);
    }

    /** Checks that hold sentences of the document. */
    Checks(String test, Document document) {
        this.test = test;
        this.document = document;
    }

    /** From here on the checks hold these words of the document, up to the next ones. */
    void holds(String place, String words) {
        endSentence();
        sentence = " (" + place + ": '" + words + "')";
        int times = document.quote(place, words);
        due("how often the words stand at their place in the document", times, 1);
        checksOfSentence = 0;
    }

    /** No words of the document's Terms and promises may be without a quotation. */
    void dueAllQuoted() {
        endSentence();
        due("the words without a quotation", document.unquoted(), List.of());
    }

    private void endSentence() {
        if (checksOfSentence == 0) {
            due("the number of checks that hold the words", 0, "some");
        }
        sentence = "";
        checksOfSentence = 1;
    }

    void due(String call, long got, long want) {
        due(call, Long.toString(got), Long.toString(want));
    }

    void due(String call, Object got, Object want) {
        checks++;
        checksOfSentence++;
        if (!got.equals(want)) {
            wrong++;
            System.out.println(test + sentence + ": " + call + " answered " + got + ", due is " + want);
        }
    }

    /** The call must throw just this class of exception: none below it, as the machine throws them. */
    void dueThrow(String call, Class<? extends RuntimeException> want, Call made) {
        due(call, outcome(made), "throws." + want.getSimpleName());
    }

    /** The call must throw, and leave the land as one that was made alike and has not seen the call. */
    void refused(Class<? extends RuntimeException> want, String call, Made made, On on) {
        Gravimere land = made.land();
        dueThrow(call, want, () -> on.land(land));
        due("all that can be asked after " + call, Lands.allAnswers(land), Lands.allAnswers(made.land()));
    }

    static String outcome(Call made) {
        try {
            return Long.toString(made.answer());
        } catch (RuntimeException thrown) {
            return "throws." + thrown.getClass().getSimpleName();
        }
    }

    void finish() {
        endSentence();
        System.out.println(test + ": " + checks + " checks, " + wrong + " wrong");
        if (wrong != 0) {
            System.exit(1);
        }
    }
}
