import java.util.Random;

/** All promises: long runs of calls, drawn by fixed seeds, answer as the plain model of the document does. */
public final class ModelTest {
    private static final int RUNS = 400;
    private static final int CALLS = 512;
    private static final int LAST_CALLS = 60;

    /** What a run likes to do, so that some runs grow deep families and others many treaties. */
    private enum Taste { EVEN, FAMILY, TREATIES, YEARS, WILD }

    private final Random random;
    private final Taste taste;
    private final KingTies world = new KingTies();
    private final Model model = new Model();
    private int calls = 0;

    private ModelTest(int seed) {
        random = new Random(seed);
        taste = Taste.values()[seed % Taste.values().length];
    }

    public static void main(String[] args) {
        for (int seed = 0; seed < RUNS; seed++) {
            new ModelTest(seed).run(seed);
        }
        Check.end();
    }

    /** What is asked to draw the next call is asked of the model, so that each world has just its 512 calls. */
    private void run(int seed) {
        while (calls < CALLS - LAST_CALLS) {
            String name = "run " + seed + ", call " + calls + ": ";
            oneCall(name);
            if (calls % 8 == 0) {
                digestAndMean(name);
            }
        }
        while (calls < CALLS - 2) {
            int a = person();
            int b = person();
            both("run " + seed + " at its end: related(" + a + ", " + b + ")", () -> world.related(a, b), () -> model.related(a, b));
        }
        digestAndMean("run " + seed + " at its end: ");
    }

    private void digestAndMean(String name) {
        both(name + "digest()", world::digest, model::digest);
        calls++;
        Check.same(name + "mean()", world.mean(), model.mean());
    }

    private void both(String name, Check.Call ours, Check.Call due) {
        calls++;
        Check.same(name, Check.outcome(ours), Check.outcome(due));
    }

    private void oneCall(String run) {
        int a = person();
        int b = random.nextInt(3) == 0 ? bestOf(a, person()) : person();
        int land = land();
        boolean male = random.nextBoolean();
        switch (kind()) {
            case 0: {
                int age = taste == Taste.WILD ? random.nextInt(64) - 1 : 10 + random.nextInt(20);
                both(run + "come(" + male + ", " + age + ")", () -> world.come(male, age), () -> model.come(male, age));
                break;
            }
            case 1:
                both(run + "bear(" + a + ", " + male + ")", () -> world.bear(a, male), () -> model.bear(a, male));
                break;
            case 2: {
                int worth = taste == Taste.WILD ? random.nextInt(54) - 1 : 1 + random.nextInt(4);
                int law = law();
                both(run + "found(" + worth + ", " + law + ", " + a + ")",
                    () -> world.found(worth, law, a), () -> model.found(worth, law, a));
                break;
            }
            case 3: {
                int law = law();
                both(run + "setLaw(" + land + ", " + law + ")", () -> world.setLaw(land, law), () -> model.setLaw(land, law));
                break;
            }
            case 4: {
                int given = random.nextInt(3) == 0 ? -1 : landOf(a, land);
                both(run + "marry(" + a + ", " + b + ", " + given + ")",
                    () -> world.marry(a, b, given), () -> model.marry(a, b, given));
                break;
            }
            case 5:
                both(run + "annul(" + a + ")", () -> world.annul(a), () -> model.annul(a));
                break;
            case 6:
                both(run + "die(" + a + ")", () -> world.die(a), () -> model.die(a));
                break;
            case 7: {
                int years = taste == Taste.WILD ? random.nextInt(104) - 1 : 1 + random.nextInt(8);
                both(run + "pass(" + years + ")", () -> world.pass(years), () -> model.pass(years));
                break;
            }
            default:
                question(run, a, b, land);
        }
    }

    private void question(String run, int a, int b, int land) {
        int what = random.nextInt(12) - 1;
        int back = random.nextInt(17) - 1;
        int years = random.nextInt(103) - 1;
        switch (random.nextInt(8)) {
            case 0:
                both(run + "person(" + a + ", " + what + ")", () -> world.person(a, what), () -> model.person(a, what));
                break;
            case 1:
                both(run + "land(" + land + ", " + what + ")", () -> world.land(land, what), () -> model.land(land, what));
                break;
            case 2:
                both(run + "ruled(" + land + ", " + back + ")", () -> world.ruled(land, back), () -> model.ruled(land, back));
                break;
            case 3:
                both(run + "related(" + a + ", " + b + ")", () -> world.related(a, b), () -> model.related(a, b));
                break;
            case 4:
                both(run + "count(" + what + ")", () -> world.count(what), () -> model.count(what));
                break;
            case 5:
                both(run + "rules(" + a + ")", () -> world.rules(a), () -> model.rules(a));
                break;
            case 6:
                both(run + "foresee(" + years + ", " + land + ")",
                    () -> world.foresee(years, land), () -> model.foresee(years, land));
                break;
            default:
                both(run + "best(" + a + ")", () -> world.best(a), () -> model.best(a));
        }
    }

    private int kind() {
        int[][] weights = {
            {3, 6, 3, 2, 8, 2, 2, 3, 8},
            {1, 14, 1, 1, 10, 1, 1, 3, 6},
            {2, 2, 2, 1, 12, 10, 1, 1, 6},
            {2, 6, 2, 2, 6, 1, 1, 8, 8},
            {4, 4, 2, 2, 4, 2, 2, 1, 12}};
        int[] mine = weights[taste.ordinal()];
        int sum = 0;
        for (int weight : mine) {
            sum += weight;
        }
        int drawn = random.nextInt(sum);
        for (int kind = 0; kind < mine.length; kind++) {
            drawn -= mine[kind];
            if (drawn < 0) {
                return kind;
            }
        }
        return mine.length;
    }

    private int person() {
        int persons = model.count(1);
        switch (random.nextInt(30)) {
            case 0: return -1;
            case 1: return persons;
            case 2: return random.nextInt();
            default: return persons == 0 ? 0 : random.nextInt(persons);
        }
    }

    private int land() {
        int lands = model.count(4);
        switch (random.nextInt(30)) {
            case 0: return -1;
            case 1: return lands;
            case 2: return random.nextInt();
            default: return lands == 0 ? 0 : random.nextInt(lands);
        }
    }

    private int landOf(int ruler, int otherwise) {
        for (int land = 0; land < model.count(4); land++) {
            if (model.land(land, 2) == ruler) {
                return land;
            }
        }
        return otherwise;
    }

    private int law() {
        return random.nextInt(12) == 0 ? random.nextInt(8) - 2 : random.nextInt(4);
    }

    private int bestOf(int one, int otherwise) {
        int best = one >= 0 && one < model.count(1) ? model.best(one) : -1;
        return best == -1 ? otherwise : best;
    }
}
