import java.util.Arrays;

/** Kings who trade kingdoms by marriages. */
public final class KingTies {
    private static final int NONE = -1;
    private static final int MOST_PERSONS = 40;
    private static final int MOST_LANDS = 12;
    private static final int MOST_KEPT = 15;
    private static final int MOST_WORTH = 50;
    private static final int MOST_YEARS = 100;
    private static final int OLDEST_COMER = 60;
    private static final int GROWN_AGE = 16;
    private static final int DYING_AGE = 80;
    private static final int STEPS_TO_MARRY = 3;
    private static final int LAW_SONS_FIRST = 0;
    private static final int LAW_ELDEST_FIRST = 1;
    private static final int LAW_ELDEST_OF_KIN = 3;
    private static final int PERSON_FACTS = 10;
    private static final int LAND_FACTS = 6;
    private static final int COUNTS = 8;
    private static final long DIGEST_START = 887L;
    private static final long DIGEST_FACTOR = 31L;

    private final Kin kin;
    private final World now;
    // One spare world is used again and again, so that looking ahead makes no new rows.
    private final World ahead;

    public KingTies() {
        kin = new Kin();
        now = new World(kin);
        ahead = new World(kin);
    }

    // ---- persons and lands

    public int come(boolean male, int age) throws IllegalArgumentException, IllegalStateException {
        if (age < 0 || age > OLDEST_COMER) {
            throw new IllegalArgumentException("the age is not 0 to 60");
        }
        if (kin.isFull()) {
            throw new IllegalStateException("there are 40 persons");
        }
        return kin.add(male, now.year - age, NONE, NONE);
    }

    public int bear(int mother, boolean male) throws IndexOutOfBoundsException, IllegalStateException {
        needPerson(mother);
        int father = now.ties.spouseOf(mother);
        if (kin.male[mother] || father == NONE || !now.lives(mother)) {
            throw new IllegalStateException("the mother is no living married woman");
        }
        if (kin.isFull()) {
            throw new IllegalStateException("there are 40 persons");
        }
        return kin.add(male, now.year, mother, father);
    }

    public int found(int worth, int law, int ruler)
            throws IllegalArgumentException, IndexOutOfBoundsException, IllegalStateException {
        if (worth < 1 || worth > MOST_WORTH) {
            throw new IllegalArgumentException("the worth is not 1 to 50");
        }
        needLaw(law);
        if (ruler != NONE) {
            needPerson(ruler);
        }
        if (now.lands.isFull()) {
            throw new IllegalStateException("there are 12 lands");
        }
        if (ruler != NONE && !now.lives(ruler)) {
            throw new IllegalStateException("the ruler has died");
        }
        return now.lands.add(worth, law, ruler);
    }

    public int setLaw(int land, int law) throws IndexOutOfBoundsException, IllegalArgumentException {
        needLand(land);
        needLaw(law);
        int before = now.lands.law[land];
        now.lands.law[land] = law;
        return before;
    }

    // ---- ties

    public int marry(int one, int other, int land) throws IndexOutOfBoundsException, IllegalStateException {
        needPerson(one);
        needPerson(other);
        if (land != NONE) {
            needLand(land);
        }
        if (!now.mayMarry(one, other)) {
            throw new IllegalStateException("these two can't marry");
        }
        int giver = now.lands.rulerOf(land);
        if (land != NONE && giver != one && giver != other) {
            throw new IllegalStateException("neither rules the land");
        }
        now.wed(one, other, land);
        return now.lands.worthUnder(one) + now.lands.worthUnder(other);
    }

    public int annul(int person) throws IndexOutOfBoundsException, IllegalStateException {
        needPerson(person);
        if (now.ties.spouseOf(person) == NONE) {
            throw new IllegalStateException("this one is not married");
        }
        return now.separate(person);
    }

    public int die(int person) throws IndexOutOfBoundsException, IllegalStateException {
        needPerson(person);
        if (!now.lives(person)) {
            throw new IllegalStateException("this one has died already");
        }
        return now.bury(person);
    }

    // ---- what is there

    public int person(int person, int what) throws IndexOutOfBoundsException {
        needPerson(person);
        needBelow(what, PERSON_FACTS);
        return now.personFact(person, what);
    }

    public int land(int land, int what) throws IndexOutOfBoundsException {
        needLand(land);
        needBelow(what, LAND_FACTS);
        return now.landFact(land, what);
    }

    public int ruled(int land, int back) throws IndexOutOfBoundsException {
        needLand(land);
        needBelow(back, now.lands.kept[land]);
        return now.lands.past[land][back];
    }

    public int related(int a, int b) throws IndexOutOfBoundsException {
        needPerson(a);
        needPerson(b);
        return kin.steps[a][b];
    }

    public int count(int what) throws IndexOutOfBoundsException {
        needBelow(what, COUNTS);
        return now.countFact(what);
    }

    // ---- years and looking ahead

    public int pass(int years) throws IllegalArgumentException {
        needYears(years);
        return now.letPass(years);
    }

    public int rules(int person) throws IndexOutOfBoundsException {
        needPerson(person);
        ahead.startFrom(now);
        for (int years = 0; years <= MOST_YEARS; years++) {
            if (ahead.lands.numberUnder(person) > 0) {
                return years;
            }
            ahead.letPass(1);
        }
        return NONE;
    }

    public int foresee(int years, int land) throws IllegalArgumentException, IndexOutOfBoundsException {
        needYears(years);
        needLand(land);
        ahead.startFrom(now);
        ahead.letPass(years);
        return ahead.lands.rulerOf(land);
    }

    public int best(int person) throws IndexOutOfBoundsException {
        needPerson(person);
        int found = NONE;
        int foundWorth = NONE;
        for (int other = 0; other < kin.persons; other++) {
            int worth = now.lands.worthUnder(other);
            if (worth > foundWorth && now.mayMarry(person, other)) {
                found = other;
                foundWorth = worth;
            }
        }
        return found;
    }

    public double mean() {
        int living = 0;
        int ages = 0;
        for (int one = 0; one < kin.persons; one++) {
            if (now.lives(one)) {
                living++;
                ages += now.age(one);
            }
        }
        return living == 0 ? 0.0 : (double) ages / (double) living;
    }

    public long digest() {
        long sum = DIGEST_START;
        for (int what = 0; what < COUNTS; what++) {
            sum = digested(sum, now.countFact(what));
        }
        for (int one = 0; one < kin.persons; one++) {
            for (int what = 0; what < PERSON_FACTS; what++) {
                sum = digested(sum, now.personFact(one, what));
            }
        }
        for (int land = 0; land < now.lands.number; land++) {
            sum = digestedLand(sum, land);
        }
        return sum;
    }

    private long digestedLand(long before, int land) {
        long sum = before;
        for (int what = 0; what < LAND_FACTS; what++) {
            sum = digested(sum, now.landFact(land, what));
        }
        for (int back = 0; back < now.lands.kept[land]; back++) {
            sum = digested(sum, now.lands.past[land][back]);
        }
        return sum;
    }

    private static long digested(long sum, long next) {
        return sum * DIGEST_FACTOR + next;
    }

    // ---- what a call needs

    private void needPerson(int person) {
        if (!kin.knows(person)) {
            throw new IndexOutOfBoundsException("there is no such person");
        }
    }

    private void needLand(int land) {
        if (!now.lands.knows(land)) {
            throw new IndexOutOfBoundsException("there is no such land");
        }
    }

    private static void needBelow(int number, int end) {
        if (number < 0 || number >= end) {
            throw new IndexOutOfBoundsException("there is nothing of that number");
        }
    }

    private static void needLaw(int law) {
        if (law < LAW_SONS_FIRST || law > LAW_ELDEST_OF_KIN) {
            throw new IllegalArgumentException("the law is not 0 to 3");
        }
    }

    private static void needYears(int years) {
        if (years < 1 || years > MOST_YEARS) {
            throw new IllegalArgumentException("the years are not 1 to 100");
        }
    }

    /** Who was born when and to whom. No year changes it, so that both worlds share it. */
    private static final class Kin {
        int persons = 0;
        final boolean[] male = new boolean[MOST_PERSONS];
        final int[] birth = new int[MOST_PERSONS];
        final int[] mother = new int[MOST_PERSONS];
        final int[] father = new int[MOST_PERSONS];
        final int[][] steps = new int[MOST_PERSONS][MOST_PERSONS];

        boolean knows(int one) {
            return one >= 0 && one < persons;
        }

        boolean isFull() {
            return persons >= MOST_PERSONS;
        }

        int add(boolean isMale, int year, int itsMother, int itsFather) {
            if (isFull()) {
                return NONE;
            }
            int one = persons;
            male[one] = isMale;
            birth[one] = year;
            mother[one] = itsMother;
            father[one] = itsFather;
            for (int other = 0; other < one; other++) {
                int way = stepsThroughParents(itsMother, itsFather, other);
                steps[one][other] = way;
                steps[other][one] = way;
            }
            steps[one][one] = 0;
            persons = one + 1;
            return one;
        }

        // The newest person has no child yet, so every way to another one begins with a step to a parent.
        private int stepsThroughParents(int itsMother, int itsFather, int other) {
            int byMother = stepsBetween(itsMother, other);
            int byFather = stepsBetween(itsFather, other);
            if (byMother == NONE && byFather == NONE) {
                return NONE;
            }
            if (byMother == NONE) {
                return byFather + 1;
            }
            return byFather == NONE ? byMother + 1 : Math.min(byMother, byFather) + 1;
        }

        int stepsBetween(int one, int other) {
            return knows(one) && knows(other) ? steps[one][other] : NONE;
        }

        /** Whether one is before the other in age; both are persons. */
        boolean isBefore(int one, int other) {
            return birth[one] < birth[other] || birth[one] == birth[other] && one < other;
        }

        /** Whether the line of their parent goes by this child ahead of the other one; both are persons. */
        boolean isAhead(int child, int other, int law) {
            if (law == LAW_SONS_FIRST && male[child] != male[other]) {
                return male[child];
            }
            if (law == LAW_SONS_FIRST || law == LAW_ELDEST_FIRST) {
                return isBefore(child, other);
            }
            return isBefore(other, child);
        }

        int childrenOf(int parent) {
            int children = 0;
            for (int child = 0; child < persons; child++) {
                if (mother[child] == parent || father[child] == parent) {
                    children++;
                }
            }
            return children;
        }
    }

    /** The lands with their laws, and who rules and has ruled them. */
    private static final class Lands {
        int number = 0;
        final int[] worth = new int[MOST_LANDS];
        final int[] law = new int[MOST_LANDS];
        final int[] ruler = new int[MOST_LANDS];
        final int[] changes = new int[MOST_LANDS];
        final int[] kept = new int[MOST_LANDS];
        final int[][] past = new int[MOST_LANDS][MOST_KEPT];

        boolean knows(int land) {
            return land >= 0 && land < number;
        }

        boolean isFull() {
            return number >= MOST_LANDS;
        }

        int add(int itsWorth, int itsLaw, int itsRuler) {
            if (isFull()) {
                return NONE;
            }
            int land = number;
            worth[land] = itsWorth;
            law[land] = itsLaw;
            handTo(land, itsRuler);
            number = land + 1;
            return land;
        }

        void handTo(int land, int one) {
            ruler[land] = one;
            if (one == NONE) {
                return;
            }
            changes[land]++;
            // The latest ruler stands first, so that the 16th one back drops out by itself.
            System.arraycopy(past[land], 0, past[land], 1, MOST_KEPT - 1);
            past[land][0] = one;
            kept[land] = Math.min(kept[land] + 1, MOST_KEPT);
        }

        int rulerOf(int land) {
            return knows(land) ? ruler[land] : NONE;
        }

        int numberUnder(int one) {
            int held = 0;
            for (int land = 0; land < number; land++) {
                if (ruler[land] == one) {
                    held++;
                }
            }
            return held;
        }

        int worthUnder(int one) {
            int sum = 0;
            for (int land = 0; land < number; land++) {
                if (ruler[land] == one) {
                    sum += worth[land];
                }
            }
            return sum;
        }

        void takeRulers(Lands from) {
            number = from.number;
            System.arraycopy(from.law, 0, law, 0, MOST_LANDS);
            System.arraycopy(from.ruler, 0, ruler, 0, MOST_LANDS);
        }
    }

    /** Who is married to whom, and what each gave with the marriage. */
    private static final class Ties {
        final int[] spouse = new int[MOST_PERSONS];
        final int[] given = new int[MOST_PERSONS];

        Ties() {
            Arrays.fill(spouse, NONE);
            Arrays.fill(given, NONE);
        }

        private static boolean fits(int one) {
            return one >= 0 && one < MOST_PERSONS;
        }

        int spouseOf(int one) {
            return fits(one) ? spouse[one] : NONE;
        }

        /** The land that this one gave with the marriage that stands. */
        int givenBy(int one) {
            return fits(one) ? given[one] : NONE;
        }

        void bind(int one, int other) {
            spouse[one] = other;
            spouse[other] = one;
        }

        void part(int one) {
            int other = spouseOf(one);
            if (!fits(one) || !fits(other)) {
                return;
            }
            spouse[one] = NONE;
            spouse[other] = NONE;
            given[one] = NONE;
            given[other] = NONE;
        }

        int couples() {
            int couples = 0;
            for (int one = 0; one < MOST_PERSONS; one++) {
                if (spouse[one] > one) {
                    couples++;
                }
            }
            return couples;
        }
    }

    /** The first one of each person's line, and through which child it is told. */
    private static final class Lines {
        final int[] first = new int[MOST_PERSONS];
        final int[] through = new int[MOST_PERSONS];

        void clear() {
            Arrays.fill(first, NONE);
            Arrays.fill(through, NONE);
        }

        int firstOf(int one) {
            return one >= 0 && one < MOST_PERSONS ? first[one] : NONE;
        }

        /** A child tells its parent the first one that the parent's line has by it. */
        void tell(Kin kin, int law, int parent, int child, int told) {
            if (!kin.knows(parent)) {
                return;
            }
            int before = through[parent];
            if (!kin.knows(before) || kin.isAhead(child, before, law)) {
                through[parent] = child;
                first[parent] = told;
            }
        }
    }

    /** What years and calls change. */
    private static final class World {
        final Kin kin;
        final Lands lands = new Lands();
        final Ties ties = new Ties();
        final Lines lines = new Lines();
        final int[] death = new int[MOST_PERSONS];
        int year = 0;

        World(Kin kin) {
            this.kin = kin;
            Arrays.fill(death, NONE);
        }

        // Who comes to rule depends on neither ties nor worth nor former rulers, so those are not taken over.
        void startFrom(World from) {
            year = from.year;
            System.arraycopy(from.death, 0, death, 0, MOST_PERSONS);
            lands.takeRulers(from.lands);
        }

        // ---- persons

        boolean lives(int one) {
            return kin.knows(one) && death[one] == NONE;
        }

        int age(int one) {
            return kin.knows(one) ? year - kin.birth[one] : 0;
        }

        private boolean isFree(int one) {
            return lives(one) && age(one) >= GROWN_AGE && ties.spouseOf(one) == NONE;
        }

        boolean mayMarry(int one, int other) {
            if (!isFree(one) || !isFree(other) || kin.male[one] == kin.male[other]) {
                return false;
            }
            int steps = kin.stepsBetween(one, other);
            return steps == NONE || steps >= STEPS_TO_MARRY;
        }

        void wed(int one, int other, int land) {
            ties.bind(one, other);
            int giver = lands.rulerOf(land);
            if (giver == one || giver == other) {
                ties.given[giver] = land;
                lands.handTo(land, giver == one ? other : one);
            }
        }

        /** Annuls the marriage of this one; the land that goes back, or NONE. */
        int separate(int one) {
            int other = ties.spouseOf(one);
            if (other == NONE) {
                return NONE;
            }
            int giver = ties.givenBy(one) == NONE ? other : one;
            int taker = giver == one ? other : one;
            int land = ties.givenBy(giver);
            ties.part(one);
            if (lands.rulerOf(land) != taker) {
                return NONE;
            }
            lands.handTo(land, giver);
            return land;
        }

        /** This one dies; how many lands are left, to heirs or to nobody. */
        int bury(int one) {
            int left = 0;
            death[one] = year;
            for (int land = 0; land < lands.number; land++) {
                if (lands.ruler[land] == one) {
                    lands.handTo(land, heirOf(one, lands.law[land]));
                    left++;
                }
            }
            ties.part(one);
            return left;
        }

        /** Lets years go by; how many die in them. */
        int letPass(int years) {
            int dead = 0;
            for (int gone = 0; gone < years; gone++) {
                year++;
                for (int one = 0; one < kin.persons; one++) {
                    if (lives(one) && age(one) >= DYING_AGE) {
                        bury(one);
                        dead++;
                    }
                }
            }
            return dead;
        }

        // ---- heirs and regents

        int heirOf(int ruler, int law) {
            if (!kin.knows(ruler)) {
                return NONE;
            }
            if (law == LAW_ELDEST_OF_KIN) {
                return eldestOfKin(ruler);
            }
            lines.clear();
            // A child has a greater number than its parents, so each line is whole before a parent is told of it.
            for (int child = kin.persons - 1; child >= 0; child--) {
                int told = lives(child) && child != ruler ? child : lines.firstOf(child);
                if (told != NONE) {
                    lines.tell(kin, law, kin.mother[child], child, told);
                    lines.tell(kin, law, kin.father[child], child, told);
                }
            }
            int heir = lines.firstOf(ruler);
            if (heir == NONE) {
                heir = lines.firstOf(kin.father[ruler]);
            }
            return heir == NONE ? lines.firstOf(kin.mother[ruler]) : heir;
        }

        private int eldestOfKin(int ruler) {
            int eldest = NONE;
            for (int one = 0; one < kin.persons; one++) {
                if (one != ruler && lives(one) && kin.stepsBetween(one, ruler) != NONE
                        && (eldest == NONE || kin.isBefore(one, eldest))) {
                    eldest = one;
                }
            }
            return eldest;
        }

        private int regentOf(int ruler) {
            if (!lives(ruler) || age(ruler) >= GROWN_AGE) {
                return NONE;
            }
            if (lives(kin.mother[ruler])) {
                return kin.mother[ruler];
            }
            return lives(kin.father[ruler]) ? kin.father[ruler] : nearestGrown(ruler);
        }

        private int nearestGrown(int ruler) {
            int nearest = NONE;
            int least = NONE;
            for (int one = 0; one < kin.persons; one++) {
                int steps = kin.stepsBetween(one, ruler);
                if (steps != NONE && lives(one) && age(one) >= GROWN_AGE
                        && (nearest == NONE || steps < least || steps == least && kin.isBefore(one, nearest))) {
                    nearest = one;
                    least = steps;
                }
            }
            return nearest;
        }

        // ---- what is there

        int personFact(int one, int what) {
            switch (what) {
                case 0: return kin.male[one] ? 1 : 0;
                case 1: return kin.birth[one];
                case 2: return lives(one) ? 1 : 0;
                case 3: return kin.mother[one];
                case 4: return kin.father[one];
                case 5: return ties.spouseOf(one);
                case 6: return kin.childrenOf(one);
                case 7: return lands.numberUnder(one);
                case 8: return lands.worthUnder(one);
                default: return death[one];
            }
        }

        int landFact(int land, int what) {
            int ruler = lands.ruler[land];
            switch (what) {
                case 0: return lands.worth[land];
                case 1: return lands.law[land];
                case 2: return ruler;
                case 3: return regentOf(ruler);
                case 4: return heirOf(ruler, lands.law[land]);
                default: return lands.changes[land];
            }
        }

        int countFact(int what) {
            switch (what) {
                case 0: return year;
                case 1: return kin.persons;
                case 2: return living();
                case 3: return ties.couples();
                case 4: return lands.number;
                case 5: return lands.numberUnder(NONE);
                case 6: return rulers(false);
                default: return rulers(true);
            }
        }

        private int living() {
            int living = 0;
            for (int one = 0; one < kin.persons; one++) {
                if (lives(one)) {
                    living++;
                }
            }
            return living;
        }

        private int rulers(boolean youngOnly) {
            int rulers = 0;
            for (int one = 0; one < kin.persons; one++) {
                if (lands.numberUnder(one) > 0 && !(youngOnly && age(one) >= GROWN_AGE)) {
                    rulers++;
                }
            }
            return rulers;
        }
    }
}
