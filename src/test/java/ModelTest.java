import java.math.BigInteger;
import java.util.ArrayList;
import java.util.List;
import java.util.Random;

/**
 * Runs of 512 calls with chosen and wild arguments, each answer held against a model that follows the
 * document word by word: BigInteger sums, nothing kept up, heights found by looking at all lines.
 */
public final class ModelTest {
    private static final Checks checks = new Checks("ModelTest");
    private static final int RUNS = 1500;
    private static final int CALLS = 512;
    private static final String[] NAMES = {
        "mass", "water", "pull", "pullAnew", "gap", "tide", "pass", "needle", "tie", "read",
        "benchmark", "line", "height", "doubt", "doubtAnew", "isInConflict", "release", "trend",
    };
    private static final int[] PLACES = {2, 2, 2, 2, 2, 2, 1, 2, 1, 3, 0, 4, 1, 1, 1, 1, 0, 4};

    public static void main(String[] args) {
        for (int run = 0; run < RUNS; run++) {
            testRun(run);
        }
        checks.finish();
    }

    // The seed is the run's number: the same runs always.
    private static void testRun(int run) {
        Random random = new Random(run);
        int[] weights = new int[NAMES.length];
        for (int kind = 0; kind < weights.length; kind++) {
            weights[kind] = random.nextInt(4) == 0 ? 8 : 1;
        }
        int wildness = run % 3 == 0 ? 3 : 40;
        Gravimere land = new Gravimere();
        Model model = new Model();
        for (int call = 0; call < CALLS; call++) {
            int kind = pick(random, weights);
            long[] given = argumentsOf(kind, random, wildness, model);
            String told = "run " + run + ", call " + call + ": " + textOf(kind, given);
            String due = model.answer(kind, given);
            checks.due(told, Checks.outcome(() -> answerOf(land, kind, given)), due);
        }
    }

    private static int pick(Random random, int[] weights) {
        int sum = 0;
        for (int weight : weights) {
            sum += weight;
        }
        int rest = random.nextInt(sum);
        int kind = 0;
        while (rest >= weights[kind]) {
            rest -= weights[kind];
            kind++;
        }
        return kind;
    }

    private static String textOf(int kind, long[] given) {
        StringBuilder text = new StringBuilder(NAMES[kind]);
        for (long argument : given) {
            text.append(' ').append(argument);
        }
        return text.toString();
    }

    private static long[] argumentsOf(int kind, Random random, int wildness, Model model) {
        long[] given = switch (NAMES[kind]) {
            case "mass" -> new long[] {random.nextInt(8), random.nextInt(8), random.nextInt(3), amount(random, 40000000000L)};
            case "water" -> new long[] {random.nextInt(8), random.nextInt(8), amount(random, 1000000000L)};
            case "pull", "pullAnew" -> new long[] {random.nextInt(8), random.nextInt(8)};
            case "gap" -> new long[] {random.nextInt(7), random.nextInt(8)};
            case "tide" -> new long[] {amount(random, 1000000), 1 + random.nextInt(60)};
            case "pass" -> new long[] {random.nextInt(3) == 0 ? 1 + random.nextInt(120) : 1 + random.nextInt(4)};
            case "needle" -> new long[] {random.nextInt(2), random.nextInt(2001) - 1000};
            case "tie" -> new long[] {below(random, model.needles.size())};
            case "read" -> new long[] {below(random, model.needles.size()), random.nextInt(8), random.nextInt(8)};
            case "line" -> lineOf(random, model);
            case "height", "doubt", "doubtAnew" -> new long[] {below(random, model.benchmarks)};
            case "isInConflict" -> new long[] {below(random, model.lines.size())};
            case "trend" -> new long[] {below(random, model.releases.size()), below(random, model.releases.size()),
                random.nextInt(8), random.nextInt(8)};
            default -> new long[0];
        };
        for (int at = 0; at < given.length; at++) {
            if (random.nextInt(wildness) == 0 && random.nextInt(given.length) == 0) {
                boolean isLong = at == given.length - 1 && (NAMES[kind].equals("mass") || NAMES[kind].equals("water"));
                given[at] = wild(random, given[at], isLong);
            }
        }
        return given;
    }

    private static long[] lineOf(Random random, Model model) {
        int from = below(random, model.benchmarks);
        int to = below(random, model.benchmarks);
        boolean isSmall = random.nextInt(4) != 0;
        // Small numbers, so that doubts are often alike and conflicts are near their limit.
        int higher = isSmall ? random.nextInt(21) - 10 : random.nextInt(2000001) - 1000000;
        int doubt = isSmall ? random.nextInt(4) : random.nextInt(1001);
        return new long[] {from, to, higher, doubt};
    }

    // Now and then the first number beyond those that there are.
    private static int below(Random random, int count) {
        return random.nextInt(count + (random.nextInt(20) == 0 || count == 0 ? 1 : 0));
    }

    private static long amount(Random random, long most) {
        return switch (random.nextInt(5)) {
            case 0 -> 0;
            case 1 -> most;
            case 2 -> random.nextInt(10);
            default -> (random.nextLong() >>> 1) % (most + 1);
        };
    }

    private static long wild(Random random, long near, boolean isLong) {
        int[] limits = {-1, 0, 1, 2, 3, 6, 7, 8, 10, 12, 24, 60, 61, 120, 121, 1000, 1001, -1000, -1001, 1000000, 1000001,
            -1000000, -1000001, 3000, Integer.MAX_VALUE, Integer.MIN_VALUE};
        long[] longs = {-1, 40000000000L, 40000000001L, 1000000000L, 1000000001L, Long.MAX_VALUE, Long.MIN_VALUE};
        return switch (random.nextInt(4)) {
            case 0 -> near - 1;
            case 1 -> near + 1;
            case 2 -> isLong ? longs[random.nextInt(longs.length)] : limits[random.nextInt(limits.length)];
            default -> isLong ? random.nextLong() : random.nextInt();
        };
    }

    private static long answerOf(Gravimere land, int kind, long[] given) {
        int[] all = new int[4];
        for (int at = 0; at < given.length; at++) {
            all[at] = (int) given[at];
        }
        return switch (NAMES[kind]) {
            case "mass" -> land.mass(all[0], all[1], all[2], given[3]);
            case "water" -> land.water(all[0], all[1], given[2]);
            case "pull" -> land.pull(all[0], all[1]);
            case "pullAnew" -> land.pullAnew(all[0], all[1]);
            case "gap" -> land.gap(all[0], all[1]);
            case "tide" -> land.tide(all[0], all[1]);
            case "pass" -> land.pass(all[0]);
            case "needle" -> land.needle(all[0], all[1]);
            case "tie" -> land.tie(all[0]);
            case "read" -> land.read(all[0], all[1], all[2]);
            case "benchmark" -> land.benchmark();
            case "line" -> land.line(all[0], all[1], all[2], all[3]);
            case "height" -> land.height(all[0]);
            case "doubt" -> land.doubt(all[0]);
            case "doubtAnew" -> land.doubtAnew(all[0]);
            case "isInConflict" -> land.isInConflict(all[0]) ? 1 : 0;
            case "release" -> land.release();
            default -> land.trend(all[0], all[1], all[2], all[3]);
        };
    }

    private record Needle(boolean isMirror, long off, long tied) {
    }

    private record Line(int from, int to, long higher, long doubt) {
    }

    private record Release(BigInteger[] pulls, long month) {
    }

    /** A benchmark that is found. */
    private record Found(long height, long doubt) {
    }

    private static final class Model {
        private final long[][][] masses = new long[8][8][3];
        private final long[][] waters = new long[8][8];
        private final List<Needle> needles = new ArrayList<>();
        private final List<Line> lines = new ArrayList<>();
        private final List<Release> releases = new ArrayList<>();
        private int benchmarks = 0;
        private long month = 0;
        private long strength = 0;
        private long period = 1;

        private static final String NO_SUCH = "throws.IndexOutOfBoundsException";
        private static final String RANGE = "throws.IllegalArgumentException";
        private static final String STATE = "throws.IllegalStateException";

        String answer(int kind, long[] a) {
            return switch (NAMES[kind]) {
                case "mass" -> mass(a);
                case "water" -> water(a);
                case "pull", "pullAnew" -> isCell(a[0], a[1]) ? pullAt(a[0], a[1]).toString() : NO_SUCH;
                case "gap" -> isCell(a[0], a[1]) && isCell(a[0] + 1, a[1])
                        ? pullAt(a[0] + 1, a[1]).subtract(pullAt(a[0], a[1])).toString() : NO_SUCH;
                case "tide" -> tide(a);
                case "pass" -> pass(a[0]);
                case "needle" -> needle(a);
                case "tie" -> tie(a[0]);
                case "read" -> read(a);
                case "benchmark" -> benchmarks == 10 ? STATE : "" + benchmarks++;
                case "line" -> line(a);
                case "height" -> height(a[0]);
                case "doubt", "doubtAnew" -> doubt(a[0]);
                case "isInConflict" -> isInConflict(a[0]);
                case "release" -> release();
                default -> trend(a);
            };
        }

        private static boolean isFrom(long value, long least, long most) {
            return least <= value && value <= most;
        }

        private static boolean isCell(long x, long y) {
            return isFrom(x, 0, 7) && isFrom(y, 0, 7);
        }

        private String mass(long[] a) {
            if (!isCell(a[0], a[1]) || !isFrom(a[2], 0, 2)) {
                return NO_SUCH;
            }
            if (!isFrom(a[3], 0, 40000000000L)) {
                return RANGE;
            }
            long before = masses[(int) a[0]][(int) a[1]][(int) a[2]];
            masses[(int) a[0]][(int) a[1]][(int) a[2]] = a[3];
            return "" + before;
        }

        private String water(long[] a) {
            if (!isCell(a[0], a[1])) {
                return NO_SUCH;
            }
            if (!isFrom(a[2], 0, 1000000000L)) {
                return RANGE;
            }
            long before = waters[(int) a[0]][(int) a[1]];
            waters[(int) a[0]][(int) a[1]] = a[2];
            return "" + before;
        }

        private BigInteger pullAt(long x, long y) {
            BigInteger sum = BigInteger.ZERO;
            for (int column = 0; column < 8; column++) {
                for (int row = 0; row < 8; row++) {
                    long flat = (column - x) * (column - x) + (row - y) * (row - y);
                    sum = sum.add(pullOf(waters[column][row], flat + 1));
                    sum = sum.add(pullOf(masses[column][row][0], flat + 1));
                    sum = sum.add(pullOf(masses[column][row][1], flat + 4));
                    sum = sum.add(pullOf(masses[column][row][2], flat + 9));
                }
            }
            return sum;
        }

        private static BigInteger pullOf(long mass, long square) {
            if (mass == 0) {
                return BigInteger.ZERO;
            }
            return BigInteger.valueOf(mass).multiply(BigInteger.valueOf(1000000)).divide(BigInteger.valueOf(square));
        }

        private String tide(long[] a) {
            if (!isFrom(a[0], 0, 1000000) || !isFrom(a[1], 1, 60)) {
                return RANGE;
            }
            long before = strength;
            strength = a[0];
            period = a[1];
            return "" + before;
        }

        private String pass(long months) {
            if (!isFrom(months, 1, 120)) {
                return RANGE;
            }
            if (month + months > 3000) {
                return STATE;
            }
            month += months;
            return "" + month;
        }

        private String needle(long[] a) {
            if (!isFrom(a[0], 0, 1) || !isFrom(a[1], -1000, 1000)) {
                return RANGE;
            }
            if (needles.size() == 6) {
                return STATE;
            }
            needles.add(new Needle(a[0] == 0, a[1], month));
            return "" + (needles.size() - 1);
        }

        private long offOf(Needle needle) {
            return needle.isMirror ? needle.off : needle.off * (month - needle.tied);
        }

        private String tie(long number) {
            if (!isFrom(number, 0, needles.size() - 1)) {
                return NO_SUCH;
            }
            Needle needle = needles.get((int) number);
            if (needle.isMirror) {
                return STATE;
            }
            needles.set((int) number, new Needle(false, needle.off, month));
            return "" + offOf(needle);
        }

        private String read(long[] a) {
            if (!isFrom(a[0], 0, needles.size() - 1) || !isCell(a[1], a[2])) {
                return NO_SUCH;
            }
            boolean isAdded = month % period < Math.floorDiv(period, 2);
            long added = (isAdded ? strength : -strength) + offOf(needles.get((int) a[0]));
            return pullAt(a[1], a[2]).add(BigInteger.valueOf(added)).toString();
        }

        private boolean isBenchmark(long number) {
            return isFrom(number, 0, benchmarks - 1);
        }

        private String line(long[] a) {
            if (!isBenchmark(a[0]) || !isBenchmark(a[1])) {
                return NO_SUCH;
            }
            if (a[0] == a[1] || !isFrom(a[2], -1000000, 1000000) || !isFrom(a[3], 0, 1000)) {
                return RANGE;
            }
            if (lines.size() == 24) {
                return STATE;
            }
            lines.add(new Line((int) a[0], (int) a[1], a[2], a[3]));
            return "" + (lines.size() - 1);
        }

        private Found[] find() {
            Found[] found = new Found[10];
            found[0] = new Found(0, 0);
            Line next;
            do {
                next = null;
                long least = Long.MAX_VALUE;
                for (Line line : lines) {
                    Found from = found[line.from];
                    Found to = found[line.to];
                    if (from != null && to == null && from.doubt + line.doubt < least) {
                        next = line;
                        least = from.doubt + line.doubt;
                    }
                    if (from == null && to != null && to.doubt + line.doubt < least) {
                        next = line;
                        least = to.doubt + line.doubt;
                    }
                }
                if (next != null && found[next.to] == null) {
                    found[next.to] = new Found(found[next.from].height + next.higher, least);
                } else if (next != null) {
                    found[next.from] = new Found(found[next.to].height - next.higher, least);
                }
            } while (next != null);
            return found;
        }

        private String height(long number) {
            if (!isBenchmark(number)) {
                return NO_SUCH;
            }
            Found found = find()[(int) number];
            return found == null ? STATE : "" + found.height;
        }

        private String doubt(long number) {
            if (!isBenchmark(number)) {
                return NO_SUCH;
            }
            Found found = find()[(int) number];
            return found == null ? "-1" : "" + found.doubt;
        }

        private String isInConflict(long number) {
            if (!isFrom(number, 0, lines.size() - 1)) {
                return NO_SUCH;
            }
            Line line = lines.get((int) number);
            Found from = find()[line.from];
            Found to = find()[line.to];
            if (from == null || to == null) {
                return "0";
            }
            long off = line.higher - (to.height - from.height);
            long together = line.doubt + from.doubt + to.doubt;
            return off > together || -off > together ? "1" : "0";
        }

        private String release() {
            if (releases.size() == 12) {
                return STATE;
            }
            BigInteger[] pulls = new BigInteger[64];
            for (int cell = 0; cell < 64; cell++) {
                pulls[cell] = pullAt(cell / 8, cell % 8);
            }
            releases.add(new Release(pulls, month));
            return "" + (releases.size() - 1);
        }

        private String trend(long[] a) {
            if (!isFrom(a[0], 0, releases.size() - 1) || !isFrom(a[1], 0, releases.size() - 1) || !isCell(a[2], a[3])) {
                return NO_SUCH;
            }
            Release early = releases.get((int) a[0]);
            Release late = releases.get((int) a[1]);
            if (early.month == late.month) {
                return STATE;
            }
            if (early.month > late.month) {
                Release other = early;
                early = late;
                late = other;
            }
            int cell = (int) (a[2] * 8 + a[3]);
            BigInteger between = BigInteger.valueOf(late.month - early.month);
            BigInteger[] parts = late.pulls[cell].subtract(early.pulls[cell]).divideAndRemainder(between);
            return (parts[1].signum() < 0 ? parts[0].subtract(BigInteger.ONE) : parts[0]).toString();
        }
    }
}
