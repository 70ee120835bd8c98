/**
 * The pull of a land to its last digit, with a tide, needles, benchmarks, lines and releases.
 * What each call does is told by the numbered promises of the document; README.md shows its use.
 */
public final class Gravimere {
    /** There is none. */
    public static final int NONE = -1;
    /** Needles. */
    public static final int MIRROR = 0, SPRING = 1;

    private static final int SIDE = 8;
    private static final int CELLS = SIDE * SIDE;
    private static final int LAYERS = 3;
    private static final long MOST_MASS = 40000000000L;
    private static final long MOST_WATER = 1000000000L;
    private static final int MOST_STRENGTH = 1000000;
    private static final int MOST_PERIOD = 60;
    private static final int MOST_PASSED = 120;
    private static final int LAST_MONTH = 3000;
    private static final int MOST_NEEDLES = 6;
    private static final int MOST_OFF = 1000;
    private static final int MOST_BENCHMARKS = 10;
    private static final int MOST_LINES = 24;
    private static final int MOST_HIGHER = 1000000;
    private static final int MOST_DOUBT = 1000;
    private static final int MOST_RELEASES = 12;

    private final Body body;
    private final Moon moon;
    private final Needles needles;
    private final Survey survey;
    private final Archive archive;
    private int month;

    public Gravimere() {
        body = new Body();
        moon = new Moon();
        needles = new Needles();
        survey = new Survey();
        archive = new Archive();
        month = 0;
    }

    // ---- the body

    public long mass(int x, int y, int layer, long mass)
            throws IndexOutOfBoundsException, IllegalArgumentException {
        requireCell(x, y);
        requireNumber(layer, LAYERS);
        requireRange(mass, 0L, MOST_MASS);
        return body.putMass(x, y, layer, mass);
    }

    public long water(int x, int y, long water)
            throws IndexOutOfBoundsException, IllegalArgumentException {
        requireCell(x, y);
        requireRange(water, 0L, MOST_WATER);
        return body.putWater(x, y, water);
    }

    public long pull(int x, int y) throws IndexOutOfBoundsException {
        requireCell(x, y);
        return body.keptPull(x, y);
    }

    public long pullAnew(int x, int y) throws IndexOutOfBoundsException {
        requireCell(x, y);
        return body.summedPull(x, y);
    }

    public long gap(int x, int y) throws IndexOutOfBoundsException {
        requireCell(x, y);
        requireNumber(x, SIDE - 1);
        return body.keptPull(x + 1, y) - body.keptPull(x, y);
    }

    // ---- tides, needles

    public int tide(int strength, int period) throws IllegalArgumentException {
        requireRange(strength, 0L, MOST_STRENGTH);
        requireRange(period, 1L, MOST_PERIOD);
        return moon.put(strength, period);
    }

    public int pass(int months) throws IllegalArgumentException, IllegalStateException {
        requireRange(months, 1L, MOST_PASSED);
        if (months > LAST_MONTH - month) {
            throw new IllegalStateException("the month would be above 3000");
        }
        month += months;
        return month;
    }

    public int needle(int kind, int off) throws IllegalArgumentException, IllegalStateException {
        requireRange(kind, MIRROR, SPRING);
        requireRange(off, -MOST_OFF, MOST_OFF);
        requireRoom(needles.count, MOST_NEEDLES);
        return needles.add(kind, off, month);
    }

    public long tie(int needle) throws IndexOutOfBoundsException, IllegalStateException {
        requireNumber(needle, needles.count);
        if (needles.kinds[needle] == MIRROR) {
            throw new IllegalStateException("a MIRROR cannot be tied");
        }
        long off = needles.offIn(needle, month);
        needles.tiedMonths[needle] = month;
        return off;
    }

    public long read(int needle, int x, int y) throws IndexOutOfBoundsException {
        requireNumber(needle, needles.count);
        requireCell(x, y);
        return body.keptPull(x, y) + moon.tideIn(month) + needles.offIn(needle, month);
    }

    // ---- heights

    public int benchmark() throws IllegalStateException {
        requireRoom(survey.benchmarks, MOST_BENCHMARKS);
        return survey.addBenchmark();
    }

    public int line(int from, int to, int higher, int doubt)
            throws IndexOutOfBoundsException, IllegalArgumentException, IllegalStateException {
        requireNumber(from, survey.benchmarks);
        requireNumber(to, survey.benchmarks);
        if (from == to) {
            throw new IllegalArgumentException("a line goes to another benchmark");
        }
        requireRange(higher, -MOST_HIGHER, MOST_HIGHER);
        requireRange(doubt, 0L, MOST_DOUBT);
        requireRoom(survey.lines, MOST_LINES);
        return survey.addLine(from, to, higher, doubt);
    }

    public int height(int benchmark) throws IndexOutOfBoundsException, IllegalStateException {
        requireNumber(benchmark, survey.benchmarks);
        survey.findHeights();
        if (survey.doubts[benchmark] == NONE) {
            throw new IllegalStateException("the benchmark has no height");
        }
        return survey.heights[benchmark];
    }

    public int doubt(int benchmark) throws IndexOutOfBoundsException {
        requireNumber(benchmark, survey.benchmarks);
        survey.findHeights();
        return survey.doubts[benchmark];
    }

    public int doubtAnew(int benchmark) throws IndexOutOfBoundsException {
        requireNumber(benchmark, survey.benchmarks);
        survey.tryAllLines();
        return survey.triedDoubts[benchmark];
    }

    public boolean isInConflict(int line) throws IndexOutOfBoundsException {
        requireNumber(line, survey.lines);
        survey.findHeights();
        return survey.contradicts(line);
    }

    // ---- releases

    public int release() throws IllegalStateException {
        requireRoom(archive.count, MOST_RELEASES);
        return archive.keep(body.pulls, month);
    }

    public long trend(int release, int other, int x, int y)
            throws IndexOutOfBoundsException, IllegalStateException {
        requireNumber(release, archive.count);
        requireNumber(other, archive.count);
        requireCell(x, y);
        if (archive.months[release] == archive.months[other]) {
            throw new IllegalStateException("both releases are of one month");
        }
        boolean isLater = archive.months[release] > archive.months[other];
        return isLater ? archive.trendFrom(other, release, x, y) : archive.trendFrom(release, other, x, y);
    }

    // ---- what the calls ask of their arguments

    private static void requireCell(int x, int y) {
        if (x < 0 || x >= SIDE || y < 0 || y >= SIDE) {
            throw new IndexOutOfBoundsException("there is no such cell");
        }
    }

    private static void requireNumber(int number, int count) {
        if (number < 0 || number >= count) {
            throw new IndexOutOfBoundsException("there is none of that number");
        }
    }

    private static void requireRange(long value, long least, long most) {
        if (value < least || value > most) {
            throw new IllegalArgumentException("an argument is out of its range");
        }
    }

    private static void requireRoom(int count, int most) {
        if (count >= most) {
            throw new IllegalStateException("there are as many as there may be");
        }
    }

    private static int cellNumber(int x, int y) {
        return y * SIDE + x;
    }

    /** The masses and waters of all cells, and the pulls, which are kept up with each change. */
    private static final class Body {
        private static final long UNIT = 1000000L;

        private final long[] masses = new long[LAYERS * CELLS];
        private final long[] waters = new long[CELLS];
        private final long[] pulls = new long[CELLS];

        private long putMass(int x, int y, int layer, long mass) {
            int place = layer * CELLS + cellNumber(x, y);
            long before = masses[place];
            masses[place] = mass;
            changePulls(x, y, layer, before, mass);
            return before;
        }

        private long putWater(int x, int y, long water) {
            int place = cellNumber(x, y);
            long before = waters[place];
            waters[place] = water;
            // Water pulls as the layer 0 does.
            changePulls(x, y, 0, before, water);
            return before;
        }

        // Each pull is rounded by itself, so the old one is taken off as it was added: to the last digit.
        private void changePulls(int x, int y, int layer, long before, long now) {
            for (int row = 0; row < SIDE; row++) {
                for (int column = 0; column < SIDE; column++) {
                    long square = squareOf(column - x, row - y, layer);
                    pulls[cellNumber(column, row)] += pullOf(now, square) - pullOf(before, square);
                }
            }
        }

        private long keptPull(int x, int y) {
            return pulls[cellNumber(x, y)];
        }

        private long summedPull(int x, int y) {
            long sum = 0L;
            for (int row = 0; row < SIDE; row++) {
                for (int column = 0; column < SIDE; column++) {
                    int cell = cellNumber(column, row);
                    sum += pullOf(waters[cell], squareOf(column - x, row - y, 0));
                    for (int layer = 0; layer < LAYERS; layer++) {
                        sum += pullOf(masses[layer * CELLS + cell], squareOf(column - x, row - y, layer));
                    }
                }
            }
            return sum;
        }

        private static long squareOf(int dx, int dy, int layer) {
            return dx * dx + dy * dy + (layer + 1) * (layer + 1);
        }

        private static long pullOf(long mass, long square) {
            // No square is below 1; LANGUAGE.md wants a divisor looked at before it divides.
            return square < 1L ? 0L : mass * UNIT / square;
        }
    }

    /** The tide that goes with the months. */
    private static final class Moon {
        private int strength = 0;
        private int period = 1;

        private int put(int newStrength, int newPeriod) {
            int before = strength;
            strength = newStrength;
            period = newPeriod;
            return before;
        }

        private long tideIn(int month) {
            // No period is below 1; LANGUAGE.md wants a divisor looked at before it divides.
            boolean isHigh = period >= 1 && month % period < period / 2;
            return isHigh ? strength : -strength;
        }
    }

    /** The needles, each with its kind, by how much it is off, and when it was tied last. */
    private static final class Needles {
        private final int[] kinds = new int[MOST_NEEDLES];
        private final int[] offs = new int[MOST_NEEDLES];
        private final int[] tiedMonths = new int[MOST_NEEDLES];
        private int count = 0;

        private int add(int kind, int off, int month) {
            kinds[count] = kind;
            offs[count] = off;
            tiedMonths[count] = month;
            count++;
            return count - 1;
        }

        private long offIn(int needle, int month) {
            return kinds[needle] == MIRROR ? offs[needle] : (long) offs[needle] * (month - tiedMonths[needle]);
        }
    }

    /** The benchmarks and the lines between them. A benchmark that is not found has the doubt NONE. */
    private static final class Survey {
        private final int[] starts = new int[MOST_LINES];
        private final int[] ends = new int[MOST_LINES];
        private final int[] rises = new int[MOST_LINES];
        private final int[] lineDoubts = new int[MOST_LINES];
        private final int[] heights = new int[MOST_BENCHMARKS];
        private final int[] doubts = new int[MOST_BENCHMARKS];
        private final int[] triedDoubts = new int[MOST_BENCHMARKS];
        private int benchmarks = 0;
        private int lines = 0;

        private int addBenchmark() {
            benchmarks++;
            return benchmarks - 1;
        }

        private int addLine(int from, int to, int higher, int doubt) {
            starts[lines] = from;
            ends[lines] = to;
            rises[lines] = higher;
            lineDoubts[lines] = doubt;
            lines++;
            return lines - 1;
        }

        private void findHeights() {
            knowOnlyFirst(doubts);
            heights[0] = 0;
            for (int found = 1; found < benchmarks; found++) {
                int line = surestLine();
                if (line == NONE) {
                    return;
                }
                goAlong(line);
            }
        }

        private static void knowOnlyFirst(int[] known) {
            known[0] = 0;
            for (int benchmark = 1; benchmark < MOST_BENCHMARKS; benchmark++) {
                known[benchmark] = NONE;
            }
        }

        private int surestLine() {
            int surest = NONE;
            int least = NONE;
            for (int line = 0; line < lines; line++) {
                int sum = doubtBeyond(line);
                // Only a smaller sum, so that of alike ones the lowest line stays.
                if (sum != NONE && (surest == NONE || sum < least)) {
                    surest = line;
                    least = sum;
                }
            }
            return surest;
        }

        /** The doubt of the benchmark that a line would find; NONE if the line would find none. */
        private int doubtBeyond(int line) {
            int startDoubt = doubts[starts[line]];
            int endDoubt = doubts[ends[line]];
            if ((startDoubt == NONE) == (endDoubt == NONE)) {
                return NONE;
            }
            return (startDoubt == NONE ? endDoubt : startDoubt) + lineDoubts[line];
        }

        private void goAlong(int line) {
            int start = starts[line];
            int end = ends[line];
            if (doubts[end] == NONE) {
                doubts[end] = doubts[start] + lineDoubts[line];
                heights[end] = heights[start] + rises[line];
            } else {
                doubts[start] = doubts[end] + lineDoubts[line];
                heights[start] = heights[end] - rises[line];
            }
        }

        private boolean contradicts(int line) {
            int start = starts[line];
            int end = ends[line];
            if (doubts[start] == NONE || doubts[end] == NONE) {
                return false;
            }
            int off = Math.abs(rises[line] - (heights[end] - heights[start]));
            return off > lineDoubts[line] + doubts[start] + doubts[end];
        }

        // No way has as many lines as there are benchmarks, so after that many rounds no doubt gets less.
        private void tryAllLines() {
            knowOnlyFirst(triedDoubts);
            boolean isAnyLess = true;
            for (int round = 0; round < benchmarks && isAnyLess; round++) {
                isAnyLess = tryEachLine();
            }
        }

        private boolean tryEachLine() {
            boolean isAnyLess = false;
            for (int line = 0; line < lines; line++) {
                if (makesLess(starts[line], ends[line], lineDoubts[line])
                        || makesLess(ends[line], starts[line], lineDoubts[line])) {
                    isAnyLess = true;
                }
            }
            return isAnyLess;
        }

        private boolean makesLess(int from, int to, int doubt) {
            if (triedDoubts[from] == NONE) {
                return false;
            }
            int sum = triedDoubts[from] + doubt;
            if (triedDoubts[to] != NONE && triedDoubts[to] <= sum) {
                return false;
            }
            triedDoubts[to] = sum;
            return true;
        }
    }

    /** The releases: the pulls of all cells, release after release, and their months. */
    private static final class Archive {
        private final long[] pulls = new long[MOST_RELEASES * CELLS];
        private final int[] months = new int[MOST_RELEASES];
        private int count = 0;

        private int keep(long[] current, int month) {
            System.arraycopy(current, 0, pulls, count * CELLS, CELLS);
            months[count] = month;
            count++;
            return count - 1;
        }

        private long trendFrom(int earlier, int later, int x, int y) {
            int between = months[later] - months[earlier];
            int cell = cellNumber(x, y);
            long risen = pulls[later * CELLS + cell] - pulls[earlier * CELLS + cell];
            // The later one is never of the same month; LANGUAGE.md wants a divisor looked at before it divides.
            return between < 1 ? 0L : Math.floorDiv(risen, (long) between);
        }
    }
}
