import java.lang.reflect.Executable;
import java.lang.reflect.InvocationTargetException;
import java.lang.reflect.Method;
import java.lang.reflect.Modifier;
import java.util.ArrayList;
import java.util.Arrays;
import java.util.List;

/**
 * The lines of "The public face": each stands in the class, throws nothing but what it names, for any arguments,
 * and of several exceptions the one that it names first. Nothing else is visible.
 */
public final class FaceBoundaryTest {
    private static final String NEW = "public KingTies();";
    private static final String COME = "public int come(boolean male, int age)"
        + " throws IllegalArgumentException, IllegalStateException;";
    private static final String BEAR = "public int bear(int mother, boolean male)"
        + " throws IndexOutOfBoundsException, IllegalStateException;";
    private static final String FOUND = "public int found(int worth, int law, int ruler)"
        + " throws IllegalArgumentException, IndexOutOfBoundsException, IllegalStateException;";
    private static final String SET_LAW = "public int setLaw(int land, int law)"
        + " throws IndexOutOfBoundsException, IllegalArgumentException;";
    private static final String MARRY = "public int marry(int one, int other, int land)"
        + " throws IndexOutOfBoundsException, IllegalStateException;";
    private static final String ANNUL = "public int annul(int person) throws IndexOutOfBoundsException, IllegalStateException;";
    private static final String DIE = "public int die(int person) throws IndexOutOfBoundsException, IllegalStateException;";
    private static final String PERSON = "public int person(int person, int what) throws IndexOutOfBoundsException;";
    private static final String LAND = "public int land(int land, int what) throws IndexOutOfBoundsException;";
    private static final String RULED = "public int ruled(int land, int back) throws IndexOutOfBoundsException;";
    private static final String RELATED = "public int related(int a, int b) throws IndexOutOfBoundsException;";
    private static final String COUNT = "public int count(int what) throws IndexOutOfBoundsException;";
    private static final String PASS = "public int pass(int years) throws IllegalArgumentException;";
    private static final String RULES = "public int rules(int person) throws IndexOutOfBoundsException;";
    private static final String FORESEE = "public int foresee(int years, int land)"
        + " throws IllegalArgumentException, IndexOutOfBoundsException;";
    private static final String BEST = "public int best(int person) throws IndexOutOfBoundsException;";
    private static final String MEAN = "public double mean();";
    private static final String DIGEST = "public long digest();";

    private static final String[] METHODS = {COME, BEAR, FOUND, SET_LAW, MARRY, ANNUL, DIE, PERSON, LAND, RULED, RELATED,
        COUNT, PASS, RULES, FORESEE, BEST, MEAN, DIGEST};

    /** The edges of all that the arguments tell: persons, lands, ages, worth, laws, years, questions. */
    private static final Integer[] NUMBERS = {Integer.MIN_VALUE, -2, -1, 0, 1, 2, 3, 4, 6, 7, 8, 10, 11, 12, 15, 16,
        39, 40, 41, 50, 51, 60, 61, 100, 101, Integer.MAX_VALUE};
    private static final Boolean[] TRUTHS = {false, true};
    private static final int CALLS_OF_ONE_WORLD = 200;

    private static final Twins.Making[] MAKINGS = {KingTies::new, Worlds::rich, Worlds::full, Worlds::fullOfLands};

    public static void main(String[] args) {
        Sentences.run(FaceBoundaryTest.class);
    }

    // ---- each line

    @Sentence(of = "The public face", says = "public final class KingTies {")
    static void thePublicFace_nothingElseIsVisible() {
        Check.same("the class", Modifier.toString(KingTies.class.getModifiers()), "public final");
        Check.same("what it extends", KingTies.class.getSuperclass().getName(), "java.lang.Object");
        Check.same("what it implements", KingTies.class.getInterfaces().length, 0);
        Check.same("its constructors", KingTies.class.getDeclaredConstructors().length, 1);
        Check.same("fields that are not private", Arrays.stream(KingTies.class.getDeclaredFields())
            .filter(field -> !Modifier.isPrivate(field.getModifiers())).count(), 0);
        List<String> names = new ArrayList<>();
        for (String line : METHODS) {
            names.add(nameOf(line));
        }
        for (Method method : KingTies.class.getDeclaredMethods()) {
            boolean hidden = Modifier.isPrivate(method.getModifiers());
            Check.same(method.getName() + " is of the face", names.contains(method.getName()) ? 1 : 0, hidden ? 0 : 1);
        }
    }

    @Sentence(of = "The public face", says = NEW)
    static void thePublicFace_new() {
        Executable made = KingTies.class.getDeclaredConstructors()[0];
        Check.same("the constructor", lineOf("KingTies", made), NEW);
    }

    @Sentence(of = "The public face", says = COME)
    static void thePublicFace_come() {
        holds(COME);
        KingTies x = Worlds.full();
        Check.refusesArgument(x, "come: the age, and 40", () -> x.come(true, 61));
        Check.refusesArgument(x, "come: a negative age, and 40", () -> x.come(true, -1));
    }

    @Sentence(of = "The public face", says = BEAR)
    static void thePublicFace_bear() {
        holds(BEAR);
        KingTies x = Worlds.full();
        Check.refusesIndex(x, "bear: nobody, and 40", () -> x.bear(40, true));
        Check.refusesIndex(x, "bear: a negative number, and 40", () -> x.bear(-1, true));
    }

    @Sentence(of = "The public face", says = FOUND)
    static void thePublicFace_found() {
        holds(FOUND);
        KingTies x = Worlds.fullOfLands();
        Check.refusesArgument(x, "found: the worth, nobody, and 12", () -> x.found(0, 0, 3));
        Check.refusesArgument(x, "found: the law, nobody, and 12", () -> x.found(5, 4, -2));
        Check.refusesArgument(x, "found: the worth, and 12", () -> x.found(51, 0, 0));
        Check.refusesArgument(x, "found: the law, a dead one, and 12", () -> x.found(5, -1, 2));
        Check.refusesIndex(x, "found: nobody, and 12", () -> x.found(5, 0, 3));
        KingTies y = Worlds.rich();
        Check.refusesArgument(y, "found: the worth, and a dead one", () -> y.found(0, 0, 6));
        Check.refusesArgument(y, "found: the law, and nobody", () -> y.found(5, 4, 8));
    }

    @Sentence(of = "The public face", says = SET_LAW)
    static void thePublicFace_setLaw() {
        holds(SET_LAW);
        KingTies x = Worlds.rich();
        Check.refusesIndex(x, "setLaw: no land, and the law", () -> x.setLaw(4, 4));
        Check.refusesIndex(x, "setLaw: a negative number, and the law", () -> x.setLaw(-1, -1));
    }

    @Sentence(of = "The public face", says = MARRY)
    static void thePublicFace_marry() {
        holds(MARRY);
        KingTies x = Worlds.rich();
        Check.refusesIndex(x, "marry: nobody, and a dead one", () -> x.marry(6, 8, -1));
        Check.refusesIndex(x, "marry: nobody first, and a dead one", () -> x.marry(8, 6, -1));
        Check.refusesIndex(x, "marry: no land, and a dead one", () -> x.marry(6, 5, 4));
        Check.refusesIndex(x, "marry: no land, and two who are married", () -> x.marry(0, 1, -2));
        Check.refusesIndex(x, "marry: no land, and one of 15", () -> x.marry(4, 5, 4));
        Check.refusesIndex(x, "marry: no land, and two women", () -> x.marry(5, 7, 4));
        Check.refusesIndex(x, "marry: nobody, with a land of another one", () -> x.marry(5, 8, 0));
    }

    @Sentence(of = "The public face", says = ANNUL)
    static void thePublicFace_annul() {
        holds(ANNUL);
    }

    @Sentence(of = "The public face", says = DIE)
    static void thePublicFace_die() {
        holds(DIE);
    }

    @Sentence(of = "The public face", says = PERSON)
    static void thePublicFace_person() {
        holds(PERSON);
    }

    @Sentence(of = "The public face", says = LAND)
    static void thePublicFace_land() {
        holds(LAND);
    }

    @Sentence(of = "The public face", says = RULED)
    static void thePublicFace_ruled() {
        holds(RULED);
    }

    @Sentence(of = "The public face", says = RELATED)
    static void thePublicFace_related() {
        holds(RELATED);
    }

    @Sentence(of = "The public face", says = COUNT)
    static void thePublicFace_count() {
        holds(COUNT);
    }

    @Sentence(of = "The public face", says = PASS)
    static void thePublicFace_pass() {
        holds(PASS);
    }

    @Sentence(of = "The public face", says = RULES)
    static void thePublicFace_rules() {
        holds(RULES);
    }

    @Sentence(of = "The public face", says = FORESEE)
    static void thePublicFace_foresee() {
        holds(FORESEE);
        KingTies x = Worlds.rich();
        Check.refusesArgument(x, "foresee: the years, and no land", () -> x.foresee(0, 4));
        Check.refusesArgument(x, "foresee: too many years, and no land", () -> x.foresee(101, -1));
    }

    @Sentence(of = "The public face", says = BEST)
    static void thePublicFace_best() {
        holds(BEST);
    }

    @Sentence(of = "The public face", says = MEAN)
    static void thePublicFace_mean() {
        holds(MEAN);
    }

    @Sentence(of = "The public face", says = DIGEST)
    static void thePublicFace_digest() {
        holds(DIGEST);
    }

    // ---- what a line asks

    /** The line stands in the class, and its method throws nothing but what it names, whatever the arguments are. */
    private static void holds(String line) {
        List<Method> methods = new ArrayList<>();
        for (Method method : KingTies.class.getDeclaredMethods()) {
            if (method.getName().equals(nameOf(line))) {
                methods.add(method);
            }
        }
        Check.same("methods for " + line, methods.size(), 1);
        for (Method method : methods) {
            String there = lineOf(method.getReturnType().getSimpleName() + " " + method.getName(), method);
            Check.same("the line of " + method.getName(), there, withoutNames(line));
            for (Twins.Making making : MAKINGS) {
                throwsItsOwnAlone(method, making);
            }
        }
    }

    private static void throwsItsOwnAlone(Method method, Twins.Making making) {
        KingTies x = making.made();
        int calls = 0;
        for (Object[] arguments : argumentsOf(method)) {
            if (calls == CALLS_OF_ONE_WORLD) {
                x = making.made();
                calls = 0;
            }
            calls++;
            String thrown = thrownBy(x, method, arguments);
            if (!thrown.isEmpty() && !namesOf(method.getExceptionTypes()).contains(thrown)) {
                Check.fails(method.getName() + Arrays.toString(arguments) + " throws " + thrown);
            }
        }
    }

    private static List<Object[]> argumentsOf(Method method) {
        List<Object[]> all = new ArrayList<>();
        all.add(new Object[method.getParameterCount()]);
        for (int place = 0; place < method.getParameterCount(); place++) {
            Object[] values = method.getParameterTypes()[place] == boolean.class ? TRUTHS : NUMBERS;
            List<Object[]> longer = new ArrayList<>();
            for (Object[] arguments : all) {
                for (Object value : values) {
                    Object[] next = arguments.clone();
                    next[place] = value;
                    longer.add(next);
                }
            }
            all = longer;
        }
        return all;
    }

    private static String thrownBy(KingTies x, Method method, Object[] arguments) {
        try {
            method.invoke(x, arguments);
            return "";
        } catch (InvocationTargetException e) {
            return e.getCause().getClass().getSimpleName();
        } catch (IllegalAccessException e) {
            return "nothing, as it can't be called";
        }
    }

    private static String nameOf(String line) {
        return line.substring(0, line.indexOf('(')).replaceFirst(".* ", "");
    }

    private static String withoutNames(String line) {
        return line.replaceAll("(int|boolean) [a-z]+(?=[,)])", "$1");
    }

    private static String lineOf(String name, Executable executable) {
        String thrown = namesOf(executable.getExceptionTypes());
        return Modifier.toString(executable.getModifiers()) + " " + name + "(" + namesOf(executable.getParameterTypes()) + ")"
            + (thrown.isEmpty() ? "" : " throws " + thrown) + ";";
    }

    private static String namesOf(Class<?>[] types) {
        List<String> names = new ArrayList<>();
        for (Class<?> type : types) {
            names.add(type.getSimpleName());
        }
        return String.join(", ", names);
    }
}
