import java.util.Random;

/** Random runs of the 512 calls that an object is used for, each answer compared with the model's. */
final class RandomTest {
    private static final int RUNS = 3000;
    private static final int CALLS = 512;
    /** From this call on only questions are asked, which show what the calls ahead of it left. */
    private static final int LAST_QUESTIONS = 380;
    private static final int FIRST_QUESTION = 20;
    /** As many columns and rows of the corner to which some runs keep. */
    private static final int CORNER = 3;

    private final Random random;
    private final Peatland moor = new Peatland();
    private final Model model = new Model();
    private final int wildness;
    private final int style;
    private final boolean isNarrow;
    private final String run;

    private RandomTest(int seed) {
        random = new Random(seed);
        wildness = 5 + seed % 40;
        style = seed % 4;
        isNarrow = seed % 3 == 0;
        run = "run " + seed;
    }

    public static void main(String[] args) {
        for (int seed = 0; seed < RUNS && !Check.isWrong(); seed++) {
            new RandomTest(seed).play();
        }
        Check.end("RandomTest");
    }

    private void play() {
        for (int i = 0; i < CALLS && !Check.isWrong(); i++) {
            boolean isQuestion = i >= LAST_QUESTIONS || random.nextInt(100) < 25;
            int which = isQuestion ? FIRST_QUESTION + random.nextInt(13) : pick();
            int[] a = isQuestion ? subject(which) : arguments(which);
            boolean flag = random.nextBoolean();
            long due = outcome(() -> isQuestion ? askModel(which, a) : onModel(which, a, flag));
            long got = outcome(() -> isQuestion ? askMoor(which, a) : onMoor(which, a, flag));
            Check.due(run + ", call " + i + ", " + which + told(a) + flag, got, due);
        }
    }

    /** Some runs are rather of parcels and cases, some of rights and sheep, some of days. */
    private int pick() {
        int which = random.nextInt(20);
        int once = random.nextInt(3);
        if (style == 1 && once > 0) {
            return new int[] {0, 1, 2, 4, 4, 5, 5, 6, 6, 7, 7}[random.nextInt(11)];
        }
        if (style == 2 && once > 0) {
            return new int[] {0, 1, 8, 8, 9, 10, 10}[random.nextInt(7)];
        }
        if (style == 3 && once > 0) {
            return new int[] {3, 4, 5, 6, 7, 11, 14, 16, 17, 17, 17}[random.nextInt(11)];
        }
        return which == 19 && random.nextInt(6) > 0 ? 17 : which;
    }

    private int within(int count) {
        if (random.nextInt(100) < wildness / 10) {
            int[] edges = {-1, count, Integer.MIN_VALUE, Integer.MAX_VALUE, count + 1};
            return edges[random.nextInt(edges.length)];
        }
        return random.nextInt(Math.max(1, count));
    }

    /** Some runs keep to a corner of nine squares, where calls meet more often. */
    private int square() {
        boolean isInTheCorner = isNarrow && random.nextInt(100) >= wildness;
        return isInTheCorner ? random.nextInt(CORNER) + 10 * random.nextInt(CORNER) : within(100);
    }

    private int second(int from) {
        if (from < 0 || from > 99 || random.nextInt(100) < wildness) {
            return within(100);
        }
        boolean isInTheCorner = isNarrow && from % 10 < CORNER && from / 10 < CORNER;
        int side = isInTheCorner ? CORNER : 10;
        return from + random.nextInt(side - from % 10) + 10 * random.nextInt(side - from / 10);
    }

    private int parcel() {
        return within(model.parcels());
    }

    /** Few persons meet more often in some runs. */
    private int person() {
        return within(style == 1 || style == 3 ? 4 : 12);
    }

    private int[] arguments(int which) {
        int s = random.nextInt(4) == 0 ? 0 : square();
        switch (which) {
            case 0:
                return new int[] {parcel(), s, second(s), person()};
            case 1:
                return new int[] {parcel(), parcel()};
            case 2: case 3: case 4:
                return new int[] {person(), s, random.nextInt(4) == 0 ? 99 : second(s)};
            case 5:
                return new int[] {within(model.caseCount()), within(11)};
            case 6: case 7:
                return new int[] {within(model.caseCount())};
            case 8:
                return new int[] {within(3), parcel(), within(12), within(random.nextBoolean() ? 100 : 12)};
            case 9:
                return new int[] {within(model.rightCount())};
            case 10:
                return new int[] {person(), parcel(), within(random.nextInt(9) == 0 ? 401 : 12)};
            case 11: case 12: case 13:
                int step = new int[] {1, -1, 10, -10}[random.nextInt(4)];
                int first = which == 12 ? s : within(which == 13 ? model.drainCount() : 62);
                return new int[] {first, random.nextInt(9) == 0 ? within(100) : s + step};
            case 14:
                return new int[] {person(), s, within(22)};
            case 15:
                return new int[] {within(random.nextBoolean() ? 4 : 11)};
            case 16:
                return new int[] {person(), s};
            case 17:
                return new int[] {within(random.nextBoolean() ? 60 : 202)};
            default:
                return new int[] {within(12), within(12)};
        }
    }

    private int[] subject(int which) {
        switch (which) {
            case 20: case 21:
                return new int[0];
            case 22: case 26:
                return new int[] {square()};
            case 23: case 29:
                return new int[] {square(), within(4)};
            case 24: case 25:
                return new int[] {parcel()};
            case 27:
                return new int[] {within(model.caseCount()), within(4)};
            case 28:
                return new int[] {within(model.rightCount()), within(5)};
            case 30:
                return new int[] {within(4)};
            case 31:
                return new int[] {person()};
            default:
                return new int[] {person(), parcel()};
        }
    }

    private long onModel(int which, int[] a, boolean flag) {
        switch (which) {
            case 0: return model.grant(a[0], a[1], a[2], a[3]);
            case 1: return model.merge(a[0], a[1]);
            case 2: return model.survey(a[0], a[1], a[2]);
            case 3: return model.use(a[0], a[1], a[2]);
            case 4: return model.file(a[0], flag, a[1], a[2]);
            case 5: return model.evidence(a[0], flag, a[1]);
            case 6: return model.decide(a[0]);
            case 7: return model.appeal(a[0]);
            case 8: return model.register(a[0], a[1], a[2], a[3]);
            case 9: return model.release(a[0]);
            case 10: return model.graze(a[0], a[1], a[2]);
            case 11: return model.rain(a[0]);
            case 12: return model.dig(a[0], a[1]);
            case 13: return model.fill(a[0]);
            case 14: return model.cut(a[0], a[1], a[2]);
            case 15: return model.wind(a[0]);
            case 16: return model.burn(a[0], a[1]);
            case 17: return model.pass(a[0]);
            case 18: return model.name(a[0], a[1]);
            default: return model.die(a[0]);
        }
    }

    private long onMoor(int which, int[] a, boolean flag) {
        switch (which) {
            case 0: return moor.grant(a[0], a[1], a[2], a[3]);
            case 1: return moor.merge(a[0], a[1]);
            case 2: return moor.survey(a[0], a[1], a[2]);
            case 3: return moor.use(a[0], a[1], a[2]);
            case 4: return moor.file(a[0], flag, a[1], a[2]);
            case 5: return moor.evidence(a[0], flag, a[1]);
            case 6: return moor.decide(a[0]);
            case 7: return moor.appeal(a[0]);
            case 8: return moor.register(a[0], a[1], a[2], a[3]);
            case 9: return moor.release(a[0]) ? 1 : 0;
            case 10: return moor.graze(a[0], a[1], a[2]);
            case 11: return moor.rain(a[0]);
            case 12: return moor.dig(a[0], a[1]);
            case 13: return moor.fill(a[0]);
            case 14: return moor.cut(a[0], a[1], a[2]);
            case 15: return moor.wind(a[0]);
            case 16: return moor.burn(a[0], a[1]);
            case 17: return moor.pass(a[0]);
            case 18: return moor.name(a[0], a[1]);
            default: return moor.die(a[0]);
        }
    }

    private long askModel(int which, int[] a) {
        switch (which) {
            case 20: return model.today();
            case 21: return model.parcels();
            case 22: return model.parcelOf(a[0]);
            case 23: return model.chain(a[0], a[1]);
            case 24: return model.area(a[0]);
            case 25: return model.owner(a[0]);
            case 26: return model.disputed(a[0]);
            case 27: return model.caseAt(a[0], a[1]);
            case 28: return model.rightAt(a[0], a[1]);
            case 29: return model.square(a[0], a[1]);
            case 30: return model.water(a[0]);
            case 31: return model.paid(a[0]);
            default: return model.sheep(a[0], a[1]);
        }
    }

    private long askMoor(int which, int[] a) {
        switch (which) {
            case 20: return moor.today();
            case 21: return moor.parcels();
            case 22: return moor.parcelOf(a[0]);
            case 23: return moor.chain(a[0], a[1]);
            case 24: return moor.area(a[0]);
            case 25: return moor.owner(a[0]);
            case 26: return moor.disputed(a[0]);
            case 27: return moor.caseAt(a[0], a[1]);
            case 28: return moor.rightAt(a[0], a[1]);
            case 29: return moor.square(a[0], a[1]);
            case 30: return moor.water(a[0]);
            case 31: return moor.paid(a[0]);
            default: return moor.sheep(a[0], a[1]);
        }
    }

    private interface Outcome {
        long get();
    }

    /** What it answers, or a number below -9 for what it throws. */
    private static long outcome(Outcome call) {
        try {
            return call.get();
        } catch (RuntimeException e) {
            if (!Check.isThrownBy("Peatland", e) && !Check.isThrownBy("Model", e)) {
                return -50;
            }
            if (e.getClass() == IndexOutOfBoundsException.class) {
                return -10;
            }
            if (e.getClass() == IllegalArgumentException.class) {
                return -20;
            }
            return e.getClass() == IllegalStateException.class ? -30 : -40;
        }
    }

    private static String told(int[] a) {
        StringBuilder text = new StringBuilder("(");
        for (int each : a) {
            text.append(each).append(' ');
        }
        return text.append(')').toString();
    }
}
