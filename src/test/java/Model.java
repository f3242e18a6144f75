import java.util.ArrayList;
import java.util.Comparator;
import java.util.HashMap;
import java.util.List;
import java.util.Map;

/** The document's words done the plainest way, with no regard to speed: what the class is held against. */
final class Model {
    private static final class Person {
        int number;
        boolean male;
        int born;
        Integer died;
        Person mother;
        Person father;
        Person spouse;
        Land gave;
    }

    private static final class Land {
        int number;
        int worth;
        int law;
        Person ruler;
        final List<Person> rulers = new ArrayList<>();

        void pass(Person to) {
            ruler = to;
            if (to != null) {
                rulers.add(to);
            }
        }
    }

    private interface Replay {
        void on(Model model);
    }

    private static final Comparator<Person> BY_AGE =
        Comparator.<Person>comparingInt(p -> p.born).thenComparingInt(p -> p.number);

    private final List<Person> persons = new ArrayList<>();
    private final List<Land> lands = new ArrayList<>();
    private final List<Replay> past = new ArrayList<>();
    private int year = 0;

    int come(boolean male, int age) {
        if (age < 0 || age > 60) {
            throw new IllegalArgumentException();
        }
        if (persons.size() == 40) {
            throw new IllegalStateException();
        }
        past.add(m -> m.come(male, age));
        return enter(male, year - age, null, null);
    }

    int bear(int mother, boolean male) {
        Person she = personOf(mother);
        if (she.male || she.spouse == null || she.died != null || persons.size() == 40) {
            throw new IllegalStateException();
        }
        past.add(m -> m.bear(mother, male));
        return enter(male, year, she, she.spouse);
    }

    private int enter(boolean male, int born, Person mother, Person father) {
        Person p = new Person();
        p.number = persons.size();
        p.male = male;
        p.born = born;
        p.mother = mother;
        p.father = father;
        persons.add(p);
        return p.number;
    }

    int found(int worth, int law, int ruler) {
        if (worth < 1 || worth > 50 || law < 0 || law > 3) {
            throw new IllegalArgumentException();
        }
        Person king = ruler == -1 ? null : personOf(ruler);
        if (lands.size() == 12 || king != null && king.died != null) {
            throw new IllegalStateException();
        }
        past.add(m -> m.found(worth, law, ruler));
        Land l = new Land();
        l.number = lands.size();
        l.worth = worth;
        l.law = law;
        l.pass(king);
        lands.add(l);
        return l.number;
    }

    int setLaw(int land, int law) {
        Land l = landOf(land);
        if (law < 0 || law > 3) {
            throw new IllegalArgumentException();
        }
        past.add(m -> m.setLaw(land, law));
        int before = l.law;
        l.law = law;
        return before;
    }

    int marry(int one, int other, int land) {
        Person a = personOf(one);
        Person b = personOf(other);
        Land l = land == -1 ? null : landOf(land);
        if (!couldMarry(a, b) || l != null && l.ruler != a && l.ruler != b) {
            throw new IllegalStateException();
        }
        past.add(m -> m.marry(one, other, land));
        a.spouse = b;
        b.spouse = a;
        if (l != null) {
            l.ruler.gave = l;
            l.pass(l.ruler.spouse);
        }
        return worth(a) + worth(b);
    }

    private boolean couldMarry(Person a, Person b) {
        int steps = steps(a, b);
        return a.died == null && b.died == null && age(a) >= 16 && age(b) >= 16 && a.spouse == null
            && b.spouse == null && a.male != b.male && (steps == -1 || steps >= 3);
    }

    int annul(int person) {
        Person a = personOf(person);
        if (a.spouse == null) {
            throw new IllegalStateException();
        }
        past.add(m -> m.annul(person));
        Person b = a.spouse;
        int back = goesBack(a, b) + goesBack(b, a) + 1;
        end(a);
        return back;
    }

    private int goesBack(Person giver, Person taker) {
        if (giver.gave == null || giver.gave.ruler != taker) {
            return -1;
        }
        giver.gave.pass(giver);
        return giver.gave.number;
    }

    private static void end(Person a) {
        if (a.spouse != null) {
            a.spouse.gave = null;
            a.spouse.spouse = null;
            a.spouse = null;
            a.gave = null;
        }
    }

    int die(int person) {
        Person p = personOf(person);
        if (p.died != null) {
            throw new IllegalStateException();
        }
        past.add(m -> m.die(person));
        int left = lands(p);
        passAway(p);
        return left;
    }

    private void passAway(Person p) {
        Map<Land, Person> heirs = new HashMap<>();
        for (Land l : lands) {
            if (l.ruler == p) {
                heirs.put(l, heir(p, l.law));
            }
        }
        p.died = year;
        heirs.forEach((l, heir) -> l.pass(heir));
        end(p);
    }

    int pass(int years) {
        if (years < 1 || years > 100) {
            throw new IllegalArgumentException();
        }
        past.add(m -> m.pass(years));
        int died = 0;
        for (int i = 0; i < years; i++) {
            year++;
            for (Person p : persons) {
                if (p.died == null && age(p) >= 80) {
                    passAway(p);
                    died++;
                }
            }
        }
        return died;
    }

    private Model again() {
        Model m = new Model();
        for (Replay call : past) {
            call.on(m);
        }
        return m;
    }

    int rules(int person) {
        personOf(person);
        Model m = again();
        for (int years = 0; years <= 100; years++) {
            if (m.lands(m.personOf(person)) > 0) {
                return years;
            }
            m.pass(1);
        }
        return -1;
    }

    int foresee(int years, int land) {
        if (years < 1 || years > 100) {
            throw new IllegalArgumentException();
        }
        landOf(land);
        Model m = again();
        m.pass(years);
        return number(m.landOf(land).ruler);
    }

    int best(int person) {
        Person a = personOf(person);
        return persons.stream().filter(b -> couldMarry(a, b))
            .max(Comparator.<Person>comparingInt(this::worth).thenComparingInt(b -> -b.number))
            .map(b -> b.number).orElse(-1);
    }

    double mean() {
        return persons.stream().filter(p -> p.died == null).mapToInt(this::age).average().orElse(0);
    }

    int related(int a, int b) {
        return steps(personOf(a), personOf(b));
    }

    private static int steps(Person a, Person b) {
        Map<Person, Integer> upA = new HashMap<>();
        Map<Person, Integer> upB = new HashMap<>();
        climb(a, 0, upA);
        climb(b, 0, upB);
        int least = -1;
        for (Person common : upA.keySet()) {
            if (upB.containsKey(common)) {
                int way = upA.get(common) + upB.get(common);
                least = least == -1 ? way : Math.min(least, way);
            }
        }
        return least;
    }

    private static void climb(Person p, int steps, Map<Person, Integer> up) {
        if (p == null || up.getOrDefault(p, 1000) <= steps) {
            return;
        }
        up.put(p, steps);
        climb(p.mother, steps + 1, up);
        climb(p.father, steps + 1, up);
    }

    private Person first(Person p, int law, Person without) {
        if (p == null) {
            return null;
        }
        List<Person> children = new ArrayList<>();
        persons.stream().filter(c -> c.mother == p || c.father == p).forEach(children::add);
        children.sort(BY_AGE);
        if (law == 0) {
            children.sort(Comparator.comparing(c -> c.male ? 0 : 1));
        } else if (law == 2) {
            children.sort(BY_AGE.reversed());
        }
        for (Person c : children) {
            if (c == without) {
                continue;
            }
            Person told = c.died == null ? c : first(c, law, without);
            if (told != null) {
                return told;
            }
        }
        return null;
    }

    private Person heir(Person ruler, int law) {
        if (law == 3) {
            return persons.stream().filter(p -> p.died == null && p != ruler && steps(p, ruler) != -1)
                .min(BY_AGE).orElse(null);
        }
        Person heir = first(ruler, law, ruler);
        if (heir == null) {
            heir = first(ruler.father, law, ruler);
        }
        return heir == null ? first(ruler.mother, law, ruler) : heir;
    }

    private Person regent(Person ruler) {
        if (age(ruler) >= 16) {
            return null;
        }
        if (ruler.mother != null && ruler.mother.died == null) {
            return ruler.mother;
        }
        if (ruler.father != null && ruler.father.died == null) {
            return ruler.father;
        }
        return persons.stream().filter(p -> p.died == null && age(p) >= 16 && steps(p, ruler) != -1)
            .min(Comparator.<Person>comparingInt(p -> steps(p, ruler)).thenComparing(BY_AGE)).orElse(null);
    }

    int person(int person, int what) {
        Person p = personOf(person);
        switch (what) {
            case 0: return p.male ? 1 : 0;
            case 1: return p.born;
            case 2: return p.died == null ? 1 : 0;
            case 3: return number(p.mother);
            case 4: return number(p.father);
            case 5: return number(p.spouse);
            case 6: return (int) persons.stream().filter(c -> c.mother == p || c.father == p).count();
            case 7: return lands(p);
            case 8: return worth(p);
            case 9: return p.died == null ? -1 : p.died;
            default: throw new IndexOutOfBoundsException();
        }
    }

    int land(int land, int what) {
        Land l = landOf(land);
        switch (what) {
            case 0: return l.worth;
            case 1: return l.law;
            case 2: return number(l.ruler);
            case 3: return l.ruler == null ? -1 : number(regent(l.ruler));
            case 4: return l.ruler == null ? -1 : number(heir(l.ruler, l.law));
            case 5: return l.rulers.size();
            default: throw new IndexOutOfBoundsException();
        }
    }

    int ruled(int land, int back) {
        Land l = landOf(land);
        if (back < 0 || back >= 15 || back >= l.rulers.size()) {
            throw new IndexOutOfBoundsException();
        }
        return l.rulers.get(l.rulers.size() - 1 - back).number;
    }

    int count(int what) {
        switch (what) {
            case 0: return year;
            case 1: return persons.size();
            case 2: return (int) persons.stream().filter(p -> p.died == null).count();
            case 3: return (int) persons.stream().filter(p -> p.spouse != null).count() / 2;
            case 4: return lands.size();
            case 5: return (int) lands.stream().filter(l -> l.ruler == null).count();
            case 6: return (int) persons.stream().filter(p -> lands(p) > 0).count();
            case 7: return (int) persons.stream().filter(p -> lands(p) > 0 && age(p) < 16).count();
            default: throw new IndexOutOfBoundsException();
        }
    }

    long digest() {
        List<Integer> numbers = new ArrayList<>();
        for (int what = 0; what < 8; what++) {
            numbers.add(count(what));
        }
        for (Person p : persons) {
            for (int what = 0; what < 10; what++) {
                numbers.add(person(p.number, what));
            }
        }
        for (Land l : lands) {
            for (int what = 0; what < 6; what++) {
                numbers.add(land(l.number, what));
            }
            for (int back = 0; back < Math.min(15, l.rulers.size()); back++) {
                numbers.add(ruled(l.number, back));
            }
        }
        long d = 887;
        for (int x : numbers) {
            d = d * 31 + x;
        }
        return d;
    }

    private int age(Person p) {
        return year - p.born;
    }

    private int lands(Person p) {
        return (int) lands.stream().filter(l -> l.ruler == p).count();
    }

    private int worth(Person p) {
        return lands.stream().filter(l -> l.ruler == p).mapToInt(l -> l.worth).sum();
    }

    private static int number(Person p) {
        return p == null ? -1 : p.number;
    }

    private Person personOf(int number) {
        if (number < 0 || number >= persons.size()) {
            throw new IndexOutOfBoundsException();
        }
        return persons.get(number);
    }

    private Land landOf(int number) {
        if (number < 0 || number >= lands.size()) {
            throw new IndexOutOfBoundsException();
        }
        return lands.get(number);
    }
}
