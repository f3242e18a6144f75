/** The sentences of the promises 1 (a new object), 2 (come), 3 (bear) and 9 (person). */
public final class PersonsBoundaryTest {
    public static void main(String[] args) {
        Sentences.run(PersonsBoundaryTest.class);
    }

    // ---- promise 1

    @Sentence(of = "Promise 1", says = "Creates a world without persons")
    static void promise01_aNewWorldHasNoPersons() {
        KingTies x = new KingTies();
        Check.same("persons", x.count(1), 0);
        Check.same("those who live", x.count(2), 0);
        Check.same("marriages", x.count(3), 0);
        Check.same("the mean age", x.mean(), 0.0);
        Twins.refuseIndex("person(0, 0)", KingTies::new, w -> w.person(0, 0));
        Twins.refuseIndex("bear(0, true)", KingTies::new, w -> w.bear(0, true));
        Twins.refuseIndex("marry(0, 0, -1)", KingTies::new, w -> w.marry(0, 0, -1));
        Twins.refuseIndex("annul(0)", KingTies::new, w -> w.annul(0));
        Twins.refuseIndex("die(0)", KingTies::new, w -> w.die(0));
        Twins.refuseIndex("related(0, 0)", KingTies::new, w -> w.related(0, 0));
        Twins.refuseIndex("rules(0)", KingTies::new, w -> w.rules(0));
        Twins.refuseIndex("best(0)", KingTies::new, w -> w.best(0));
        Twins.refuseIndex("found(5, 0, 0)", KingTies::new, w -> w.found(5, 0, 0));
        Check.same("nobody dies", x.pass(100), 0);
    }

    @Sentence(of = "Promise 1", says = "and lands")
    static void promise01_aNewWorldHasNoLands() {
        KingTies x = new KingTies();
        Check.same("lands", x.count(4), 0);
        Check.same("lands without a ruler", x.count(5), 0);
        Check.same("rulers", x.count(6), 0);
        Check.same("young rulers", x.count(7), 0);
        Twins.refuseIndex("land(0, 0)", KingTies::new, w -> w.land(0, 0));
        Twins.refuseIndex("setLaw(0, 0)", KingTies::new, w -> w.setLaw(0, 0));
        Twins.refuseIndex("ruled(0, 0)", KingTies::new, w -> w.ruled(0, 0));
        Twins.refuseIndex("foresee(1, 0)", KingTies::new, w -> w.foresee(1, 0));
        Twins.refuseIndex("marry with a land", Worlds::strangers, w -> w.marry(0, 1, 0));
    }

    @Sentence(of = "Promise 1", says = "in the year 0.")
    static void promise01_aNewWorldIsInTheYear0() {
        KingTies x = new KingTies();
        Check.same("the year", x.count(0), 0);
        x.come(true, 20);
        x.found(5, 0, 0);
        x.pass(9);
        Check.same("the year of another new world", new KingTies().count(0), 0);
        Check.same("its digest", new KingTies().digest(), YearsBoundaryTest.digestOf(0, 0, 0, 0, 0, 0, 0, 0));
    }

    // ---- promise 2

    private static void facts(String name, KingTies x, int one, int... due) {
        for (int what = 0; what < due.length; what++) {
            Check.same(name + ": person(" + one + ", " + what + ")", x.person(one, what), due[what]);
        }
    }

    @Sentence(of = "Promise 2", says = "A person comes from afar, without parents.")
    static void promise02_onePersonComesWithoutParents() {
        KingTies x = Worlds.couple();
        int one = x.come(true, 5);
        facts("one from afar", x, one, 1, -5, 1, -1, -1, -1, 0, 0, 0, -1);
        Check.same("persons", x.count(1), 3);
        for (int other = 0; other < one; other++) {
            Check.same("related to " + other, x.related(one, other), -1);
        }
    }

    @Sentence(of = "Promise 2", says = "whether male")
    static void promise02_aManOrAWomanComes() {
        KingTies x = new KingTies();
        x.come(true, 20);
        x.come(false, 20);
        facts("he", x, 0, 1);
        facts("she", x, 1, 0);
    }

    @Sentence(of = "Promise 2", says = "the age, 0 to 60")
    static void promise02_theAgeIs0To60() {
        KingTies x = new KingTies();
        Check.same("come(true, 0)", x.come(true, 0), 0);
        Check.same("come(true, 60)", x.come(true, 60), 1);
        Check.same("the year of birth at 0", x.person(0, 1), 0);
        Check.same("the year of birth at 60", x.person(1, 1), -60);
        x.pass(10);
        x.come(true, 0);
        x.come(true, 60);
        Check.same("the year of birth at 0, ten years later", x.person(2, 1), 10);
        Check.same("the year of birth at 60, ten years later", x.person(3, 1), -50);
    }

    @Sentence(of = "Promise 2", says = "Returns the number.")
    static void promise02_theNumberIsReturned() {
        KingTies x = new KingTies();
        for (int one = 0; one < 40; one++) {
            Check.same("come, one behind the other", x.come(one % 2 == 0, one), one);
        }
    }

    @Sentence(of = "Promise 2", says = "Throws `IllegalArgumentException` if age is not 0 to 60")
    static void promise02_throwsIfAgeIsNot0To60() {
        for (int age : Worlds.notBelow(61)) {
            Twins.refuseArgument("come(true, " + age + ")", Worlds::rich, x -> x.come(true, age));
            Twins.refuseArgument("come(false, " + age + ") first", KingTies::new, x -> x.come(false, age));
        }
        Check.same("come(true, 0) is not refused", Worlds.rich().come(true, 0), 8);
        Check.same("come(true, 60) is not refused", Worlds.rich().come(true, 60), 8);
    }

    @Sentence(of = "Promise 2", says = "Throws `IllegalStateException` if there are 40")
    static void promise02_throwsIfThereAre40() {
        Twins.refuseState("come with 40", Worlds::full, x -> x.come(true, 0));
        Twins.refuseState("come with 40, of whom two have died", PersonsBoundaryTest::fullOfDead, x -> x.come(false, 60));
        KingTies x = fullBut(1);
        Check.same("the 40th one", x.come(true, 0), 39);
        Check.refusesState(x, "the 41st one", () -> x.come(true, 0));
    }

    private static KingTies fullOfDead() {
        KingTies x = Worlds.full();
        x.die(0);
        x.die(39);
        return x;
    }

    private static KingTies fullBut(int free) {
        KingTies x = Worlds.couple();
        for (int one = 2; one < 40 - free; one++) {
            x.come(true, 20);
        }
        return x;
    }

    // ---- promise 3

    @Sentence(of = "Promise 3", says = "A child is born to a married woman; her husband is its father.")
    static void promise03_theHusbandIsTheFather() {
        KingTies x = Worlds.couple();
        x.pass(7);
        x.bear(1, true);
        facts("a child", x, 2, 1, 7, 1, 1, 0, -1, 0, 0, 0, -1);
        Check.same("persons", x.count(1), 3);
        x.annul(0);
        x.come(true, 20);
        x.marry(3, 1, -1);
        x.bear(1, false);
        facts("a child of the next husband", x, 4, 0, 7, 1, 1, 3, -1, 0, 0, 0, -1);
    }

    @Sentence(of = "Promise 3", says = "the mother")
    static void promise03_sheIsTheMother() {
        KingTies x = Worlds.strangers();
        x.marry(2, 3, -1);
        x.marry(0, 1, -1);
        x.bear(3, true);
        x.bear(1, true);
        facts("her child", x, 4, 1, 0, 1, 3, 2);
        facts("the other one's child", x, 5, 1, 0, 1, 1, 0);
        Check.same("steps to the mother", x.related(4, 3), 1);
        Check.same("steps to the other one", x.related(4, 1), -1);
    }

    @Sentence(of = "Promise 3", says = "whether the child is male")
    static void promise03_aSonOrADaughterIsBorn() {
        KingTies x = Worlds.couple();
        x.bear(1, true);
        x.bear(1, false);
        facts("a son", x, 2, 1);
        facts("a daughter", x, 3, 0);
    }

    @Sentence(of = "Promise 3", says = "Returns its number.")
    static void promise03_theNumberIsReturned() {
        KingTies x = Worlds.couple();
        for (int one = 2; one < 40; one++) {
            Check.same("bear, one behind the other", x.bear(1, one % 2 == 0), one);
        }
    }

    @Sentence(of = "Promise 3", says = "Throws `IndexOutOfBoundsException` if there is no such person")
    static void promise03_throwsIfThereIsNoSuchPerson() {
        for (int mother : Worlds.notBelow(8)) {
            Twins.refuseIndex("bear(" + mother + ", true)", Worlds::rich, x -> x.bear(mother, true));
        }
        for (int mother : Worlds.notBelow(40)) {
            Twins.refuseIndex("bear(" + mother + ", true) with 40", Worlds::full, x -> x.bear(mother, true));
        }
    }

    @Sentence(of = "Promise 3", says = "she is not female")
    static void promise03_throwsIfSheIsNotFemale() {
        Twins.refuseState("bear of a married man", Worlds::couple, x -> x.bear(0, true));
        Twins.refuseState("bear of a man who is not married", Worlds::strangers, x -> x.bear(0, true));
    }

    @Sentence(of = "Promise 3", says = "or not married")
    static void promise03_throwsIfSheIsNotMarried() {
        Twins.refuseState("bear of one who never was", Worlds::strangers, x -> x.bear(1, true));
        Twins.refuseState("bear behind an annulment", PersonsBoundaryTest::annulled, x -> x.bear(1, true));
        Twins.refuseState("bear of a widow", () -> coupleWithout(0), x -> x.bear(1, true));
    }

    private static KingTies annulled() {
        KingTies x = Worlds.couple();
        x.bear(1, true);
        x.annul(0);
        return x;
    }

    private static KingTies coupleWithout(int one) {
        KingTies x = Worlds.couple();
        x.die(one);
        return x;
    }

    @Sentence(of = "Promise 3", says = "or has died")
    static void promise03_throwsIfSheHasDied() {
        Twins.refuseState("bear of one who has died", () -> coupleWithout(1), x -> x.bear(1, true));
        KingTies y = new KingTies();
        y.come(false, 60);
        y.come(true, 20);
        y.marry(0, 1, -1);
        y.pass(19);
        Check.same("she bears at 79", y.bear(0, true), 2);
        y.pass(1);
        Check.refusesState(y, "bear at 80", () -> y.bear(0, true));
    }

    @Sentence(of = "Promise 3", says = "or there are 40 persons")
    static void promise03_throwsIfThereAre40Persons() {
        Twins.refuseState("bear with 40", Worlds::full, x -> x.bear(1, true));
        KingTies x = fullBut(1);
        Check.same("the 40th one", x.bear(1, true), 39);
        Check.refusesState(x, "the 41st one", () -> x.bear(1, true));
        x.die(39);
        Check.refusesState(x, "one for a dead one", () -> x.bear(1, true));
    }

    // ---- promise 9

    @Sentence(of = "Promise 9", says = "a person")
    static void promise09_eachPersonIsTold() {
        KingTies x = Worlds.rich();
        int[] births = {-30, -25, 0, 0, -14, -19, -40, -58};
        for (int one = 0; one < births.length; one++) {
            Check.same("person(" + one + ", 1)", x.person(one, 1), births[one]);
        }
        Check.same("the 40th one", Worlds.full().person(39, 1), -20);
    }

    @Sentence(of = "Promise 9", says = "0 1 if male, else 0")
    static void promise09_what0IsWhetherMale() {
        KingTies x = Worlds.family();
        int[] due = {1, 0, 0, 1, 1, 0};
        for (int one = 0; one < due.length; one++) {
            Check.same("person(" + one + ", 0)", x.person(one, 0), due[one]);
        }
        x.die(0);
        Check.same("of one who has died", x.person(0, 0), 1);
    }

    @Sentence(of = "Promise 9", says = "1 the year of birth")
    static void promise09_what1IsTheYearOfBirth() {
        KingTies x = Worlds.family();
        int[] due = {-30, -25, 0, 0, 1, 1};
        for (int one = 0; one < due.length; one++) {
            Check.same("person(" + one + ", 1)", x.person(one, 1), due[one]);
        }
        x.come(true, 60);
        Check.same("60 ahead of the year 1", x.person(6, 1), -59);
    }

    @Sentence(of = "Promise 9", says = "2 1 if this one lives, else 0")
    static void promise09_what2IsWhetherThisOneLives() {
        KingTies x = new KingTies();
        x.come(true, 60);
        x.come(true, 20);
        x.pass(19);
        Check.same("lives at 79", x.person(0, 2), 1);
        x.pass(1);
        Check.same("has died at 80", x.person(0, 2), 0);
        x.die(1);
        Check.same("has died by a call", x.person(1, 2), 0);
    }

    @Sentence(of = "Promise 9", says = "3 the mother, -1 for none")
    static void promise09_what3IsTheMother() {
        KingTies x = Worlds.family();
        Check.same("none", x.person(0, 3), -1);
        Check.same("the mother", x.person(5, 3), 1);
        x.die(1);
        Check.same("the mother, who has died", x.person(5, 3), 1);
    }

    @Sentence(of = "Promise 9", says = "4 the father, -1 for none")
    static void promise09_what4IsTheFather() {
        KingTies x = Worlds.family();
        Check.same("none", x.person(1, 4), -1);
        Check.same("the father, the number 0", x.person(5, 4), 0);
        x.annul(0);
        Check.same("the father, who is not married any more", x.person(5, 4), 0);
        x.die(0);
        Check.same("the father, who has died", x.person(5, 4), 0);
    }

    @Sentence(of = "Promise 9", says = "5 the one to whom this one is married, -1 for nobody")
    static void promise09_what5IsTheSpouse() {
        KingTies x = Worlds.strangers();
        Check.same("nobody", x.person(0, 5), -1);
        x.marry(0, 1, -1);
        Check.same("she", x.person(0, 5), 1);
        Check.same("he, the number 0", x.person(1, 5), 0);
        x.annul(1);
        Check.same("nobody behind an annulment", x.person(0, 5), -1);
        x.marry(0, 1, -1);
        x.die(1);
        Check.same("nobody for a widower", x.person(0, 5), -1);
        Check.same("nobody for the dead", x.person(1, 5), -1);
    }

    @Sentence(of = "Promise 9", says = "6 children (also those that have died)")
    static void promise09_what6IsTheNumberOfChildren() {
        KingTies x = Worlds.family();
        Check.same("none of a child", x.person(2, 6), 0);
        Check.same("of the father", x.person(0, 6), 4);
        Check.same("of the mother", x.person(1, 6), 4);
        x.die(2);
        x.die(5);
        Check.same("of the father, with two that have died", x.person(0, 6), 4);
        Check.same("of the mother, with two that have died", x.person(1, 6), 4);
        x.die(0);
        Check.same("of one who has died", x.person(0, 6), 4);
        Check.same("none of one from afar", Worlds.strangers().person(0, 6), 0);
        KingTies y = Worlds.couple();
        for (int child = 0; child < 38; child++) {
            y.bear(1, true);
        }
        Check.same("38", y.person(1, 6), 38);
        Check.same("grandchildren are none", grandmother().person(1, 6), 1);
    }

    private static KingTies grandmother() {
        KingTies x = Worlds.couple();
        x.bear(1, true);
        x.pass(16);
        x.come(false, 16);
        x.marry(2, 3, -1);
        x.bear(3, true);
        return x;
    }

    @Sentence(of = "Promise 9", says = "7 lands")
    static void promise09_what7IsTheNumberOfLands() {
        KingTies x = Worlds.strangers();
        Check.same("none", x.person(0, 7), 0);
        for (int land = 0; land < 12; land++) {
            x.found(5, 0, 0);
            Check.same("lands", x.person(0, 7), land + 1);
        }
        x.marry(0, 1, 3);
        Check.same("one less", x.person(0, 7), 11);
        Check.same("one given", x.person(1, 7), 1);
        x.die(0);
        Check.same("none of the dead", x.person(0, 7), 0);
    }

    @Sentence(of = "Promise 9", says = "8 the worth of these, added")
    static void promise09_what8IsTheWorthOfTheLands() {
        KingTies x = Worlds.strangers();
        Check.same("nothing", x.person(0, 8), 0);
        for (int land = 0; land < 12; land++) {
            x.found(50, 0, 0);
        }
        Check.same("the most", x.person(0, 8), 600);
        x.marry(0, 1, 3);
        Check.same("50 less", x.person(0, 8), 550);
        Check.same("50 given", x.person(1, 8), 50);
        x.die(0);
        Check.same("nothing of the dead", x.person(0, 8), 0);
    }

    @Sentence(of = "Promise 9", says = "9 the year of death, -1 for one who lives")
    static void promise09_what9IsTheYearOfDeath() {
        KingTies x = Worlds.strangers();
        Check.same("of one who lives", x.person(0, 9), -1);
        x.die(0);
        Check.same("in the year 0", x.person(0, 9), 0);
        x.pass(3);
        x.die(1);
        Check.same("in the year 3", x.person(1, 9), 3);
        x.pass(100);
        Check.same("by the age of 80", x.person(2, 9), 64);
        Check.same("in the year 0 still", x.person(0, 9), 0);
    }

    @Sentence(of = "Promise 9", says = "Throws `IndexOutOfBoundsException` if there is no such person")
    static void promise09_throwsIfThereIsNoSuchPerson() {
        for (int one : Worlds.notBelow(8)) {
            for (int what : new int[] {0, 5, 9, 10}) {
                Twins.refuseIndex("person(" + one + ", " + what + ")", Worlds::rich, x -> x.person(one, what));
            }
        }
        for (int one : Worlds.notBelow(40)) {
            Twins.refuseIndex("person(" + one + ", 0) with 40", Worlds::full, x -> x.person(one, 0));
        }
    }

    @Sentence(of = "Promise 9", says = "or what is not 0 to 9")
    static void promise09_throwsIfWhatIsNot0To9() {
        for (int what : Worlds.notBelow(10)) {
            Twins.refuseIndex("person(0, " + what + ")", Worlds::rich, x -> x.person(0, what));
            Twins.refuseIndex("person(6, " + what + ") of the dead", Worlds::rich, x -> x.person(6, what));
        }
        Check.same("person(6, 0) is not refused", Worlds.rich().person(6, 0), 1);
        Check.same("person(6, 9) is not refused", Worlds.rich().person(6, 9), 1);
    }
}
