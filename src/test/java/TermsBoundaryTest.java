/** The sentences of "What it is" and of "Terms" on persons, ages, kinship, lands, years and refused calls. */
public final class TermsBoundaryTest {
    public static void main(String[] args) {
        Sentences.run(TermsBoundaryTest.class);
    }

    @Sentence(of = "What it is", says = "An object is used for at most 512 calls after it has been made")
    static void whatItIs_the512thCallIsAnswered() {
        KingTies x = new KingTies();
        x.come(true, 0);
        for (int call = 2; call <= 510; call++) {
            Check.same("pass(1), call " + call, x.pass(1), call == 81 ? 1 : 0);
        }
        Check.same("come(false, 60), call 511", x.come(false, 60), 1);
        Check.same("count(0), call 512", x.count(0), 509);
        KingTies y = new KingTies();
        for (int call = 1; call <= 511; call++) {
            Check.same("land(0, 0), call " + call, Check.outcome(() -> y.land(0, 0)), "java.lang.IndexOutOfBoundsException");
        }
        Check.same("come(true, 5), call 512 behind refused ones", y.come(true, 5), 0);
        KingTies z = Worlds.changed(508);
        Check.same("land(0, 5), call 512", z.land(0, 5), 509);
    }

    @Sentence(of = "Terms", says = "Time is told in years, from 0.")
    static void terms_timeIsToldFromTheYear0() {
        KingTies x = new KingTies();
        Check.same("the first year", x.count(0), 0);
        x.come(true, 0);
        Check.same("born in the first year", x.person(0, 1), 0);
        x.die(0);
        Check.same("died in the first year", x.person(0, 9), 0);
        x.pass(1);
        Check.same("the second year", x.count(0), 1);
    }

    @Sentence(of = "Terms", says = "Persons. There are at most 40")
    static void terms_thereAreAtMost40Persons() {
        KingTies x = Worlds.couple();
        for (int one = 2; one < 39; one++) {
            x.come(true, 20);
        }
        Check.same("the 40th is born", x.bear(1, true), 39);
        Check.same("persons", x.count(1), 40);
        Check.refusesState(x, "a 41st comes", () -> x.come(true, 20));
        Check.refusesState(x, "a 41st is born", () -> x.bear(1, true));
        x.die(5);
        Check.same("the dead are persons too", x.count(1), 40);
        Check.refusesState(x, "a 41st comes for a dead one", () -> x.come(true, 20));
        Check.refusesState(x, "a 41st is born for a dead one", () -> x.bear(1, true));
        Check.same("the 40th comes", Worlds.full().count(1), 40);
    }

    @Sentence(of = "Terms", says = "numbered from 0 in the order of their coming")
    static void terms_personsAreNumberedFrom0InTheirOrder() {
        KingTies x = new KingTies();
        Check.same("the first one", x.come(true, 20), 0);
        Check.same("an older one", x.come(false, 60), 1);
        x.marry(0, 1, -1);
        Check.same("a child", x.bear(1, true), 2);
        x.die(2);
        Check.same("one behind a death", x.come(true, 20), 3);
        Check.same("a child behind that", x.bear(1, true), 4);
    }

    @Sentence(of = "Terms", says = "each is male or female")
    static void terms_eachIsMaleOrFemale() {
        KingTies x = new KingTies();
        x.come(true, 20);
        x.come(false, 20);
        Check.same("a man", x.person(0, 0), 1);
        Check.same("a woman", x.person(1, 0), 0);
    }

    @Sentence(of = "Terms", says = "was born in a year (-60 or later)")
    static void terms_theEarliestBirthIsMinus60() {
        KingTies x = new KingTies();
        x.come(true, 60);
        x.come(true, 59);
        Check.same("the earliest birth", x.person(0, 1), -60);
        Check.same("a birth a year later", x.person(1, 1), -59);
        Check.refusesArgument(x, "one born in -61", () -> x.come(true, 61));
        Check.same("lives until the age of 80", x.pass(20), 1);
    }

    @Sentence(of = "Terms", says = "lives, or has died")
    static void terms_oneLivesOrHasDied() {
        KingTies x = Worlds.couple();
        Check.same("lives", x.person(0, 2), 1);
        x.die(0);
        Check.same("has died", x.person(0, 2), 0);
        x.pass(100);
        Check.same("has died for good", x.person(0, 2), 0);
        Check.same("in the same year as before", x.person(0, 9), 0);
    }

    @Sentence(of = "Terms", says = "has a mother and a father, or neither")
    static void terms_bothParentsOrNeither() {
        KingTies x = Worlds.couple();
        x.bear(1, true);
        Check.same("the mother of a child", x.person(2, 3), 1);
        Check.same("the father of a child", x.person(2, 4), 0);
        x.come(true, 0);
        Check.same("the mother of one from afar", x.person(3, 3), -1);
        Check.same("the father of one from afar", x.person(3, 4), -1);
        x.die(0);
        x.die(1);
        Check.same("the mother, dead", x.person(2, 3), 1);
        Check.same("the father, dead", x.person(2, 4), 0);
    }

    @Sentence(of = "Terms", says = "is married to one person, or to nobody")
    static void terms_marriedToOneOrToNobody() {
        KingTies x = Worlds.strangers();
        Check.same("to nobody", x.person(0, 5), -1);
        x.marry(0, 1, -1);
        Check.same("to one", x.person(0, 5), 1);
        Check.refusesState(x, "to a second one", () -> x.marry(0, 3, -1));
        x.annul(0);
        x.marry(0, 3, -1);
        Check.same("to the next one", x.person(0, 5), 3);
        Check.same("the first one to nobody", x.person(1, 5), -1);
    }

    @Sentence(of = "Terms", says = "The age is the year that is now, less that of birth.")
    static void terms_ageIsTheYearLessThatOfBirth() {
        KingTies x = Worlds.couple();
        x.pass(5);
        x.bear(1, true);
        x.die(0);
        x.die(1);
        Check.same("the age of a newborn", x.mean(), 0.0);
        x.pass(7);
        Check.same("the age 7 years later", x.mean(), 7.0);
        x.die(2);
        x.come(true, 60);
        x.pass(19);
        Check.same("the age at the most", x.mean(), 79.0);
    }

    /** He and she and their son, who rules; so many years old they came. */
    private static KingTies parents(int his, int hers, boolean heFirst) {
        KingTies x = new KingTies();
        x.come(heFirst, heFirst ? his : hers);
        x.come(!heFirst, heFirst ? hers : his);
        x.marry(0, 1, -1);
        x.bear(heFirst ? 1 : 0, true);
        x.found(5, 3, 2);
        return x;
    }

    @Sentence(of = "Terms", says = "One is before another one in age, if born in an earlier year")
    static void terms_beforeInAgeIfBornEarlier() {
        Check.same("the mother, a year older", parents(20, 21, true).land(0, 4), 1);
        Check.same("the father, a year older", parents(21, 20, false).land(0, 4), 1);
        Check.same("the first one, a year older", parents(21, 20, true).land(0, 4), 0);
    }

    @Sentence(of = "Terms", says = "or in the same one with a smaller number")
    static void terms_beforeInAgeOfOneYearBySmallerNumber() {
        Check.same("the father of the mother's age", parents(20, 20, true).land(0, 4), 0);
        Check.same("the mother of the father's age", parents(20, 20, false).land(0, 4), 0);
    }

    private static void steps(KingTies x, int a, int b, int due) {
        Check.same("related(" + a + ", " + b + ")", x.related(a, b), due);
        Check.same("related(" + b + ", " + a + ")", x.related(b, a), due);
    }

    /** 0 he and 1 she; their son 2 and their daughter 3; 4 she and 5 he, who marry these; their children 6 and 7. */
    private static KingTies cousins() {
        KingTies x = new KingTies();
        x.come(true, 20);
        x.come(false, 20);
        x.marry(0, 1, -1);
        x.bear(1, true);
        x.bear(1, false);
        x.pass(16);
        x.come(false, 20);
        x.come(true, 20);
        x.marry(2, 4, -1);
        x.marry(3, 5, -1);
        x.bear(4, true);
        x.bear(3, false);
        return x;
    }

    @Sentence(of = "Terms", says = {"Two persons are related, if one is the other one", "to oneself 0"})
    static void terms_oneIsRelatedToOneselfBy0() {
        KingTies x = cousins();
        for (int one = 0; one < 8; one++) {
            steps(x, one, one, 0);
        }
        x.die(6);
        steps(x, 6, 6, 0);
    }

    @Sentence(of = "Terms", says = "or an ancestor (by mothers and fathers) of the other one")
    static void terms_ancestorsAreRelated() {
        KingTies x = cousins();
        steps(x, 6, 2, 1);
        steps(x, 6, 0, 2);
        steps(x, 6, 1, 2);
        steps(x, 7, 3, 1);
        steps(x, 7, 0, 2);
        steps(x, 7, 1, 2);
        x.pass(16);
        x.marry(6, 7, -1);
        x.bear(7, true);
        steps(x, 8, 0, 3);
        steps(x, 8, 1, 3);
        steps(x, 8, 4, 2);
        steps(x, 8, 5, 2);
    }

    @Sentence(of = "Terms", says = "or both have a common ancestor")
    static void terms_thoseOfACommonAncestorAreRelated() {
        KingTies x = cousins();
        steps(x, 6, 7, 4);
        steps(x, 6, 3, 3);
        steps(x, 7, 2, 3);
        x.die(0);
        x.die(1);
        x.die(2);
        x.die(3);
        steps(x, 6, 7, 4);
        x.marry(4, 5, -1);
        x.bear(4, true);
        steps(x, 8, 6, 2);
        steps(x, 8, 7, 2);
        steps(x, 8, 0, -1);
        steps(x, 4, 5, -1);
    }

    @Sentence(of = "Terms", says = "by the least number of steps, up to a common one and down from it")
    static void terms_theLeastNumberOfStepsIsTold() {
        KingTies x = new KingTies();
        x.come(true, 20);
        x.come(false, 20);
        x.marry(0, 1, -1);
        x.bear(1, true);
        x.bear(1, true);
        x.come(false, 0);
        x.pass(16);
        x.marry(2, 4, -1);
        x.bear(4, false);
        x.pass(16);
        x.marry(3, 5, -1);
        x.bear(5, true);
        x.bear(5, false);
        Check.same("to a grandfather, who is a great-grandfather too", x.related(6, 0), 2);
        Check.same("to an uncle of the father's side, who is the mother's father", x.related(6, 2), 2);
        Check.same("to a sister, who is a cousin too", x.related(6, 7), 2);
        Check.same("to the father, who is the mother's uncle", x.related(6, 3), 1);
    }

    @Sentence(of = "Terms", says = "(a child to a parent 1, to a sister 2, both ways alike")
    static void terms_childAndSisterBothWaysAlike() {
        KingTies x = cousins();
        steps(x, 2, 0, 1);
        steps(x, 2, 1, 1);
        steps(x, 2, 3, 2);
        steps(x, 2, 7, 3);
    }

    @Sentence(of = "Terms", says = "Lands. There are at most 12")
    static void terms_thereAreAtMost12Lands() {
        KingTies x = Worlds.couple();
        for (int land = 0; land < 11; land++) {
            x.found(5, 0, 0);
        }
        Check.same("the 12th land", x.found(5, 0, -1), 11);
        Check.same("lands", x.count(4), 12);
        Check.refusesState(x, "a 13th land", () -> x.found(5, 0, 0));
        x.die(0);
        Check.refusesState(x, "a 13th land without a ruler, as the others", () -> x.found(5, 0, -1));
        Check.same("the last one stands", x.land(11, 0), 5);
    }

    @Sentence(of = "Terms", says = "numbered likewise")
    static void terms_landsAreNumberedFrom0InTheirOrder() {
        KingTies x = Worlds.couple();
        for (int land = 0; land < 12; land++) {
            Check.same("land " + land, x.found(12 - land, 3 - land % 4, land % 3 - 1), land);
        }
        Check.same("worth of the first one", x.land(0, 0), 12);
        Check.same("worth of the last one", x.land(11, 0), 1);
    }

    @Sentence(of = "Terms", says = "each has worth, 1 to 50")
    static void terms_worthIs1To50() {
        KingTies x = new KingTies();
        x.found(1, 0, -1);
        x.found(50, 0, -1);
        Check.same("the least worth", x.land(0, 0), 1);
        Check.same("the most worth", x.land(1, 0), 50);
        Check.refusesArgument(x, "no worth", () -> x.found(0, 0, -1));
        Check.refusesArgument(x, "more worth", () -> x.found(51, 0, -1));
    }

    @Sentence(of = "Terms", says = "a ruler who lives, or none")
    static void terms_aRulerLivesOrThereIsNone() {
        KingTies x = Worlds.couple();
        x.found(5, 0, 0);
        x.found(5, 0, -1);
        Check.same("a ruler", x.land(0, 2), 0);
        Check.same("none", x.land(1, 2), -1);
        x.die(0);
        Check.same("none behind a death without heirs", x.land(0, 2), -1);
        Check.refusesState(x, "a dead ruler", () -> x.found(5, 0, 0));
    }

    @Sentence(of = "Terms", says = "and a law, 0 to 3.")
    static void terms_aLawIs0To3() {
        KingTies x = new KingTies();
        for (int law = 0; law < 4; law++) {
            x.found(5, law, -1);
            Check.same("the law " + law, x.land(law, 1), law);
        }
        Check.refusesArgument(x, "a law -1", () -> x.found(5, -1, -1));
        Check.refusesArgument(x, "a law 4", () -> x.found(5, 4, -1));
    }

    @Sentence(of = "Terms", says = "A year goes like this: the year is 1 greater; then")
    static void terms_theYearIsGreaterAheadOfTheDeaths() {
        KingTies x = new KingTies();
        x.come(true, 60);
        x.pass(19);
        Check.same("the year of the age of 79", x.count(0), 19);
        Check.same("lives at 79", x.person(0, 2), 1);
        Check.same("dies in the year of the age of 80", x.pass(1), 1);
        Check.same("the year of death", x.person(0, 9), 20);
    }

    @Sentence(of = "Terms", says = "each living person with an age of 80 or more dies")
    static void terms_eachOneOf80Dies() {
        KingTies x = new KingTies();
        x.come(true, 60);
        x.come(false, 60);
        x.come(true, 59);
        x.come(true, 60);
        x.die(3);
        Check.same("nobody dies at 79", x.pass(19), 0);
        Check.same("two die at 80, but for the dead", x.pass(1), 2);
        Check.same("one of 79 lives", x.person(2, 2), 1);
        Check.same("the dead stay so since", x.person(3, 9), 0);
    }

    @Sentence(of = "Terms", says = "by numbers, one after the other.")
    static void terms_theOldDieByNumbers() {
        KingTies x = Worlds.family();
        x.found(5, 1, 2);
        x.found(5, 1, 3);
        x.die(0);
        x.die(1);
        x.die(4);
        x.die(5);
        x.setLaw(0, 1);
        x.pass(78);
        Check.same("the twins live at 79", x.count(2), 2);
        Check.same("the twins die at 80", x.pass(1), 2);
        Check.same("the second one had the first one's land, dying behind", x.ruled(1, 0), 3);
        Check.same("its rulers", x.land(1, 5), 2);
        Check.same("the first one had none of the second one's, dying ahead", x.ruled(2, 0), 3);
        Check.same("its only ruler", x.land(2, 5), 1);
        Check.same("nobody rules", x.count(5), 3);
    }

    @Sentence(of = "Terms", says = "A method that throws an exception changes nothing.")
    static void terms_aRefusedCallChangesNothing() {
        refusedOnPersonsAndLands();
        refusedOnTies();
        refusedQuestions();
        Twins.refuseState("come with 40", Worlds::full, x -> x.come(true, 20));
        Twins.refuseState("bear with 40", Worlds::full, x -> x.bear(1, true));
        Twins.refuseState("found with 12 lands", Worlds::fullOfLands, x -> x.found(5, 0, 0));
    }

    private static void refusedOnPersonsAndLands() {
        Twins.refuseArgument("come(true, 61)", Worlds::rich, x -> x.come(true, 61));
        Twins.refuseIndex("bear(8, true)", Worlds::rich, x -> x.bear(8, true));
        Twins.refuseState("bear of a man", Worlds::rich, x -> x.bear(0, true));
        Twins.refuseState("bear of an unmarried one", Worlds::rich, x -> x.bear(5, true));
        Twins.refuseArgument("found(0, 0, 0)", Worlds::rich, x -> x.found(0, 0, 0));
        Twins.refuseArgument("found(5, 4, 0)", Worlds::rich, x -> x.found(5, 4, 0));
        Twins.refuseIndex("found(5, 0, 8)", Worlds::rich, x -> x.found(5, 0, 8));
        Twins.refuseState("found(5, 0, 6)", Worlds::rich, x -> x.found(5, 0, 6));
        Twins.refuseIndex("setLaw(4, 3)", Worlds::rich, x -> x.setLaw(4, 3));
        Twins.refuseArgument("setLaw(0, 4)", Worlds::rich, x -> x.setLaw(0, 4));
        Twins.refuseArgument("setLaw(1, 4)", Worlds::rich, x -> x.setLaw(1, 4));
        Twins.refuseArgument("setLaw(2, -1)", Worlds::rich, x -> x.setLaw(2, -1));
    }

    private static void refusedOnTies() {
        Twins.refuseIndex("marry(4, 8, -1)", Worlds::rich, x -> x.marry(4, 8, -1));
        Twins.refuseIndex("marry(8, 5, -1)", Worlds::rich, x -> x.marry(8, 5, -1));
        Twins.refuseIndex("marry(4, 5, 4)", Worlds::rich, x -> x.marry(4, 5, 4));
        Twins.refuseState("marry of a dead one", Worlds::rich, x -> x.marry(6, 5, -1));
        Twins.refuseState("marry of one of 15", Worlds::rich, x -> x.marry(4, 5, -1));
        Twins.refuseState("marry of a married one", Worlds::rich, x -> x.marry(0, 5, 0));
        Twins.refuseState("marry of two women", Worlds::rich, x -> x.marry(5, 7, -1));
        Twins.refuseState("marry with a land of neither", () -> later(1), x -> x.marry(4, 5, 1));
        Twins.refuseState("marry of siblings", () -> later(16), x -> x.marry(2, 3, -1));
        Twins.refuseIndex("annul(8)", Worlds::rich, x -> x.annul(8));
        Twins.refuseState("annul(7)", Worlds::rich, x -> x.annul(7));
        Twins.refuseIndex("die(8)", Worlds::rich, x -> x.die(8));
        Twins.refuseState("die(6)", Worlds::rich, x -> x.die(6));
    }

    private static KingTies later(int years) {
        KingTies x = Worlds.rich();
        x.pass(years);
        return x;
    }

    private static void refusedQuestions() {
        Twins.refuseIndex("person(8, 0)", Worlds::rich, x -> x.person(8, 0));
        Twins.refuseIndex("person(0, 10)", Worlds::rich, x -> x.person(0, 10));
        Twins.refuseIndex("land(4, 0)", Worlds::rich, x -> x.land(4, 0));
        Twins.refuseIndex("land(0, 6)", Worlds::rich, x -> x.land(0, 6));
        Twins.refuseIndex("ruled(4, 0)", Worlds::rich, x -> x.ruled(4, 0));
        Twins.refuseIndex("ruled(0, 2)", Worlds::rich, x -> x.ruled(0, 2));
        Twins.refuseIndex("related(8, 0)", Worlds::rich, x -> x.related(8, 0));
        Twins.refuseIndex("related(0, 8)", Worlds::rich, x -> x.related(0, 8));
        Twins.refuseIndex("count(8)", Worlds::rich, x -> x.count(8));
        Twins.refuseArgument("pass(0)", Worlds::rich, x -> x.pass(0));
        Twins.refuseArgument("pass(101)", Worlds::rich, x -> x.pass(101));
        Twins.refuseIndex("rules(8)", Worlds::rich, x -> x.rules(8));
        Twins.refuseArgument("foresee(101, 0)", Worlds::rich, x -> x.foresee(101, 0));
        Twins.refuseIndex("foresee(100, 4)", Worlds::rich, x -> x.foresee(100, 4));
        Twins.refuseIndex("best(8)", Worlds::rich, x -> x.best(8));
    }

    @Sentence(of = "Terms", says = "If several exceptions apply, the one that is named first is thrown.")
    static void terms_theExceptionNamedFirstIsThrown() {
        KingTies x = Worlds.full();
        Check.refusesArgument(x, "come: the age, and 40", () -> x.come(true, 61));
        Check.refusesIndex(x, "bear: nobody, and 40", () -> x.bear(40, true));
        KingTies y = Worlds.fullOfLands();
        Check.refusesArgument(y, "found: the worth, and nobody", () -> y.found(0, 0, 3));
        Check.refusesArgument(y, "found: the law, and nobody", () -> y.found(5, 4, 3));
        Check.refusesArgument(y, "found: the worth, and 12", () -> y.found(51, 0, 0));
        Check.refusesArgument(y, "found: the law, and a dead one", () -> y.found(5, -1, 2));
        Check.refusesIndex(y, "found: nobody, and 12", () -> y.found(5, 0, 3));
        Check.refusesIndex(y, "setLaw: no land, and the law", () -> y.setLaw(12, 4));
        Check.refusesIndex(y, "marry: nobody, and a dead one", () -> y.marry(2, 3, -1));
        Check.refusesIndex(y, "marry: nobody first, and a dead one", () -> y.marry(3, 2, -1));
        Check.refusesIndex(y, "marry: no land, and a dead one", () -> y.marry(2, 1, 12));
        Check.refusesIndex(y, "marry: no land, and two who are married", () -> y.marry(0, 1, -2));
        Check.refusesArgument(y, "foresee: the years, and no land", () -> y.foresee(0, 12));
        Check.refusesArgument(y, "foresee: too many years, and no land", () -> y.foresee(101, -1));
    }
}
