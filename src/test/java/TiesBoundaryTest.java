/** The sentences of the promises 6 (marry), 7 (annul), 8 (die) and 12 (related). */
public final class TiesBoundaryTest {
    public static void main(String[] args) {
        Sentences.run(TiesBoundaryTest.class);
    }

    // ---- promise 6

    @Sentence(of = "Promise 6", says = "Marries two.")
    static void promise06_twoAreMarried() {
        KingTies x = Worlds.strangers();
        x.marry(0, 1, -1);
        x.marry(3, 2, -1);
        int[] due = {1, 0, 3, 2};
        for (int one = 0; one < due.length; one++) {
            Check.same("to whom " + one + " is married", x.person(one, 5), due[one]);
        }
        Check.same("marriages", x.count(3), 2);
    }

    @Sentence(of = "Promise 6", says = {"one of both", "the other one"})
    static void promise06_bothMayBeNamedFirst() {
        KingTies x = Worlds.strangers();
        x.found(7, 0, 0);
        Check.same("she first", x.marry(1, 0, 0), 7);
        Check.same("she rules what he gave", x.land(0, 2), 1);
        Check.same("he is married to", x.person(0, 5), 1);
        Check.same("it goes back to him", x.annul(1), 0);
        Check.same("he first", x.marry(0, 1, 0), 7);
        Check.same("she rules it again", x.land(0, 2), 1);
        KingTies y = Worlds.full();
        Check.same("the 40th one", y.marry(39, 38, -1), 0);
        Check.same("the 40th one is married to", y.person(39, 5), 38);
    }

    @Sentence(of = "Promise 6", says = "a land that one of both rules, which is given to the other one; -1 for none")
    static void promise06_aLandIsGivenOrNone() {
        KingTies x = Worlds.strangers();
        x.found(7, 0, 0);
        x.found(8, 0, 3);
        for (int land = 2; land < 12; land++) {
            x.found(9, 0, 0);
        }
        x.marry(0, 1, 11);
        x.marry(2, 3, 1);
        Check.same("the last land, of the first one", x.land(11, 2), 1);
        Check.same("a land of the second one", x.land(1, 2), 2);
        Check.same("the others stay", x.person(0, 7), 10);
        KingTies y = Worlds.strangers();
        y.found(7, 0, 0);
        y.found(8, 0, -1);
        y.marry(0, 1, -1);
        Check.same("none is given", y.land(0, 5), 1);
        Check.same("and nothing becomes of the land without a ruler", y.land(1, 2), -1);
        Check.same("none goes back", y.annul(0), -1);
    }

    @Sentence(of = "Promise 6", says = "Returns the worth of all lands of both, added.")
    static void promise06_theWorthOfBothIsReturned() {
        KingTies x = Worlds.strangers();
        x.found(7, 0, 0);
        x.found(11, 0, 1);
        x.found(13, 0, 1);
        x.found(17, 0, 2);
        x.found(19, 0, -1);
        Check.same("with a land given", x.marry(0, 1, 1), 31);
        Check.same("of the other two", x.marry(3, 2, 3), 17);
        x.annul(0);
        Check.same("without a land given", x.marry(1, 0, -1), 31);
        Check.same("without lands", Worlds.strangers().marry(0, 1, -1), 0);
        KingTies y = Worlds.strangers();
        for (int land = 0; land < 12; land++) {
            y.found(50, 0, land % 2);
        }
        Check.same("the most", y.marry(0, 1, 5), 600);
    }

    @Sentence(of = "Promise 6", says = "Throws `IndexOutOfBoundsException` if there is no such person")
    static void promise06_throwsIfThereIsNoSuchPerson() {
        for (int one : Worlds.notBelow(4)) {
            Twins.refuseIndex("marry(" + one + ", 1, -1)", Worlds::strangers, x -> x.marry(one, 1, -1));
            Twins.refuseIndex("marry(0, " + one + ", -1)", Worlds::strangers, x -> x.marry(0, one, -1));
            Twins.refuseIndex("marry of nobody twice", Worlds::strangers, x -> x.marry(one, one, -1));
        }
        for (int one : Worlds.notBelow(40)) {
            Twins.refuseIndex("marry(" + one + ", 3, -1) with 40", Worlds::full, x -> x.marry(one, 3, -1));
            Twins.refuseIndex("marry(2, " + one + ", -1) with 40", Worlds::full, x -> x.marry(2, one, -1));
        }
    }

    @Sentence(of = "Promise 6", says = "or no such land, and it is not -1")
    static void promise06_throwsIfThereIsNoSuchLand() {
        for (int land : Worlds.notBelowNorNone(0)) {
            Twins.refuseIndex("marry(0, 1, " + land + ")", Worlds::strangers, x -> x.marry(0, 1, land));
        }
        for (int land : Worlds.notBelowNorNone(4)) {
            Twins.refuseIndex("marry of the married, " + land, Worlds::rich, x -> x.marry(0, 1, land));
        }
        for (int land : Worlds.notBelowNorNone(12)) {
            Twins.refuseIndex("marry of the married, " + land + " with 12", Worlds::fullOfLands, x -> x.marry(0, 1, land));
        }
    }

    private static KingTies strangersWithout(int one) {
        KingTies x = Worlds.strangers();
        x.found(5, 0, 1);
        x.die(one);
        return x;
    }

    @Sentence(of = "Promise 6", says = "Throws `IllegalStateException` if one of both has died")
    static void promise06_throwsIfOneHasDied() {
        Twins.refuseState("the first one", () -> strangersWithout(0), x -> x.marry(0, 3, -1));
        Twins.refuseState("the second one", () -> strangersWithout(0), x -> x.marry(3, 0, -1));
        Twins.refuseState("she, with her land", () -> strangersWithout(1), x -> x.marry(0, 1, 0));
        Twins.refuseState("both", TiesBoundaryTest::strangersWithoutTwo, x -> x.marry(0, 1, -1));
    }

    private static KingTies strangersWithoutTwo() {
        KingTies x = strangersWithout(0);
        x.die(1);
        return x;
    }

    /** 0 he, 15, 1 she, 15, 2 he, 16, 3 she, 16. */
    private static KingTies young() {
        KingTies x = new KingTies();
        x.come(true, 15);
        x.come(false, 15);
        x.come(true, 16);
        x.come(false, 16);
        return x;
    }

    @Sentence(of = "Promise 6", says = "is younger than 16")
    static void promise06_throwsIfOneIsYoungerThan16() {
        Twins.refuseState("the first one of 15", TiesBoundaryTest::young, x -> x.marry(0, 3, -1));
        Twins.refuseState("the second one of 15", TiesBoundaryTest::young, x -> x.marry(2, 1, -1));
        Twins.refuseState("both of 15", TiesBoundaryTest::young, x -> x.marry(0, 1, -1));
        KingTies x = young();
        Check.same("both of 16", x.marry(2, 3, -1), 0);
        x.pass(1);
        Check.same("the others a year later", x.marry(0, 1, -1), 0);
    }

    @Sentence(of = "Promise 6", says = "or married")
    static void promise06_throwsIfOneIsMarried() {
        Twins.refuseState("the first one", TiesBoundaryTest::oneCouple, x -> x.marry(0, 3, -1));
        Twins.refuseState("the second one", TiesBoundaryTest::oneCouple, x -> x.marry(2, 1, -1));
        Twins.refuseState("both to each other", TiesBoundaryTest::oneCouple, x -> x.marry(0, 1, -1));
        Twins.refuseState("both to each other, with the land given", TiesBoundaryTest::oneCouple, x -> x.marry(1, 0, 0));
        KingTies x = oneCouple();
        x.annul(1);
        Check.same("behind an annulment", x.marry(0, 3, -1), 5);
        x.die(3);
        Check.same("behind a death", x.marry(0, 1, -1), 5);
    }

    private static KingTies oneCouple() {
        KingTies x = Worlds.strangers();
        x.found(5, 0, 0);
        x.marry(0, 1, 0);
        return x;
    }

    @Sentence(of = "Promise 6", says = "both are male, or female")
    static void promise06_throwsIfBothAreMaleOrFemale() {
        Twins.refuseState("two men", Worlds::strangers, x -> x.marry(0, 2, -1));
        Twins.refuseState("two women", Worlds::strangers, x -> x.marry(1, 3, -1));
        Twins.refuseState("a man with himself", Worlds::strangers, x -> x.marry(0, 0, -1));
        Twins.refuseState("a woman with herself", Worlds::strangers, x -> x.marry(1, 1, -1));
    }

    /**
     * 0 he and 1 she; their twins 2 he, 3 she, and 4 he; 4 and a wife 5 have 6 she and 7 he, who are 16 now;
     * 3 and a husband 8 have 9 he, of 16. All are unmarried.
     */
    private static KingTies kin() {
        KingTies x = new KingTies();
        x.come(true, 16);
        x.come(false, 16);
        x.marry(0, 1, -1);
        x.bear(1, true);
        x.bear(1, false);
        x.bear(1, true);
        x.pass(16);
        x.come(false, 16);
        x.marry(4, 5, -1);
        x.bear(5, false);
        x.bear(5, true);
        x.come(true, 16);
        x.marry(3, 8, -1);
        x.bear(3, true);
        x.pass(16);
        x.annul(0);
        x.annul(4);
        x.annul(3);
        return x;
    }

    @Sentence(of = "Promise 6", says = "or they are related by fewer than 3 steps")
    static void promise06_throwsIfRelatedByFewerThan3Steps() {
        Twins.refuseState("father and daughter, 1", TiesBoundaryTest::kin, x -> x.marry(0, 3, -1));
        Twins.refuseState("mother and son, 1", TiesBoundaryTest::kin, x -> x.marry(1, 2, -1));
        Twins.refuseState("brother and sister, 2", TiesBoundaryTest::kin, x -> x.marry(2, 3, -1));
        Twins.refuseState("grandfather and granddaughter, 2", TiesBoundaryTest::kin, x -> x.marry(0, 6, -1));
        Twins.refuseState("grandmother and grandson, 2", TiesBoundaryTest::kin, x -> x.marry(9, 1, -1));
        Check.same("uncle and niece, 3", kin().marry(2, 6, -1), 0);
        Check.same("aunt and nephew, 3", kin().marry(3, 7, -1), 0);
        Check.same("cousins, 4", kin().marry(9, 6, -1), 0);
        Check.same("related by none", kin().marry(4, 5, -1), 0);
        KingTies x = kin();
        x.marry(8, 5, -1);
        x.bear(5, true);
        x.pass(16);
        Check.refusesState(x, "half brother and half sister, 2", () -> x.marry(6, 10, -1));
    }

    @Sentence(of = "Promise 6", says = "or neither rules the land")
    static void promise06_throwsIfNeitherRulesTheLand() {
        Twins.refuseState("a third one's", TiesBoundaryTest::threeLands, x -> x.marry(2, 3, 0));
        Twins.refuseState("nobody's", TiesBoundaryTest::threeLands, x -> x.marry(2, 3, 1));
        Twins.refuseState("what one ruled once", TiesBoundaryTest::threeLands, x -> x.marry(2, 3, 2));
        Twins.refuseState("a third one's, whom he may marry", TiesBoundaryTest::herLand, x -> x.marry(2, 3, 0));
        Check.same("hers, with her", herLand().marry(2, 1, 0), 5);
    }

    private static KingTies herLand() {
        KingTies x = Worlds.strangers();
        x.found(5, 0, 1);
        return x;
    }

    private static KingTies threeLands() {
        KingTies x = Worlds.strangers();
        x.found(5, 0, 0);
        x.found(5, 0, -1);
        x.found(5, 0, 2);
        x.marry(2, 1, 2);
        x.die(1);
        return x;
    }

    // ---- promise 7

    @Sentence(of = "Promise 7", says = "Annuls the marriage of a person.")
    static void promise07_theMarriageIsAnnulled() {
        KingTies x = Worlds.strangers();
        x.marry(0, 1, -1);
        x.marry(2, 3, -1);
        x.annul(0);
        Check.same("he is married to", x.person(0, 5), -1);
        Check.same("she is married to", x.person(1, 5), -1);
        Check.same("the other two are", x.person(2, 5), 3);
        Check.same("marriages", x.count(3), 1);
        x.marry(0, 1, -1);
        Check.same("both may marry again", x.count(3), 2);
    }

    @Sentence(of = "Promise 7", says = "the person")
    static void promise07_eitherAnnuls() {
        for (int one = 0; one < 2; one++) {
            for (int land = 0; land < 2; land++) {
                KingTies x = Worlds.strangers();
                x.found(5, 0, 0);
                x.found(6, 0, 1);
                x.marry(0, 1, land);
                Check.same("annul(" + one + ")", x.annul(one), land);
                Check.same("the giver has the land " + land, x.land(land, 2), land);
                Check.same("the other land is as it was", x.land(1 - land, 5), 1);
            }
        }
    }

    @Sentence(of = "Promise 7", says = "Returns the land that goes back, -1 for none.")
    static void promise07_theLandThatGoesBackIsReturned() {
        KingTies x = Worlds.strangers();
        for (int land = 0; land < 12; land++) {
            x.found(5, 0, 0);
        }
        x.marry(0, 1, -1);
        Check.same("none", x.annul(0), -1);
        x.marry(0, 1, 0);
        Check.same("the least number", x.annul(0), 0);
        x.marry(0, 1, 11);
        Check.same("the greatest number", x.annul(1), 11);
        x.marry(0, 1, -1);
        Check.same("none of the marriage ahead", x.annul(0), -1);
        x.marry(0, 1, 5);
        x.die(1);
        x.marry(0, 3, -1);
        Check.same("none of the marriage that ended by a death", x.annul(0), -1);
        x.marry(0, 3, 6);
        x.die(0);
        x.marry(2, 3, -1);
        Check.same("none of the dead giver", x.annul(3), -1);
        Check.same("she rules it still", x.land(6, 2), 3);
        KingTies y = Worlds.family();
        y.pass(16);
        y.come(true, 20);
        y.found(9, 2, 6);
        y.marry(6, 2, 1);
        y.die(2);
        y.marry(6, 5, -1);
        Check.same("none of one who inherited what was given to the wife ahead", y.annul(6), -1);
        Check.same("she who inherited it rules it still", y.land(1, 2), 5);
    }

    @Sentence(of = "Promise 7", says = "Throws `IndexOutOfBoundsException` if there is no such person")
    static void promise07_throwsIfThereIsNoSuchPerson() {
        for (int one : Worlds.notBelow(8)) {
            Twins.refuseIndex("annul(" + one + ")", Worlds::rich, x -> x.annul(one));
        }
        for (int one : Worlds.notBelow(40)) {
            Twins.refuseIndex("annul(" + one + ") with 40", Worlds::full, x -> x.annul(one));
        }
    }

    @Sentence(of = "Promise 7", says = "Throws `IllegalStateException` if this one is not married")
    static void promise07_throwsIfThisOneIsNotMarried() {
        Twins.refuseState("one who never was", Worlds::strangers, x -> x.annul(0));
        Twins.refuseState("one of 15", Worlds::rich, x -> x.annul(4));
        Twins.refuseState("he behind an annulment", () -> annulledBy(1), x -> x.annul(0));
        Twins.refuseState("she behind her annulment", () -> annulledBy(1), x -> x.annul(1));
        Twins.refuseState("a widow", () -> coupleWithout(0), x -> x.annul(1));
        Twins.refuseState("a widower", () -> coupleWithout(1), x -> x.annul(0));
        Twins.refuseState("one who has died", () -> coupleWithout(1), x -> x.annul(1));
    }

    private static KingTies annulledBy(int one) {
        KingTies x = oneCouple();
        x.annul(one);
        return x;
    }

    private static KingTies coupleWithout(int one) {
        KingTies x = oneCouple();
        x.die(one);
        return x;
    }

    // ---- promise 8

    @Sentence(of = "Promise 8", says = "A person dies.")
    static void promise08_onePersonDies() {
        KingTies x = Worlds.family();
        x.die(0);
        Check.same("does not live", x.person(0, 2), 0);
        Check.same("died in this year", x.person(0, 9), 1);
        Check.same("rules nothing", x.person(0, 7), 0);
        Check.same("the heir rules", x.land(0, 2), 3);
        Check.same("the marriage has ended", x.count(3), 0);
        Check.same("those who live", x.count(2), 5);
        Check.same("the dead stay persons", x.count(1), 6);
        Check.same("the dead stay kin", x.related(0, 3), 1);
        KingTies y = new KingTies();
        y.come(true, 0);
        Check.same("a newborn dies", y.die(0), 0);
        Check.same("nobody lives", y.count(2), 0);
    }

    @Sentence(of = "Promise 8", says = "the person")
    static void promise08_thisOneDies() {
        KingTies x = Worlds.full();
        x.die(39);
        x.die(0);
        for (int one = 0; one < 40; one++) {
            Check.same("person(" + one + ", 2)", x.person(one, 2), one == 0 || one == 39 ? 0 : 1);
        }
    }

    @Sentence(of = "Promise 8", says = "Returns how many lands this one leaves.")
    static void promise08_theNumberOfLandsLeftIsReturned() {
        KingTies x = Worlds.family();
        Check.same("none", x.die(2), 0);
        Check.same("one, to an heir", x.die(0), 1);
        Check.same("the same one again", x.die(3), 1);
        KingTies y = Worlds.strangers();
        for (int land = 0; land < 12; land++) {
            y.found(5, land % 4, 0);
        }
        Check.same("12, to nobody", y.die(0), 12);
        Check.same("all are without a ruler", y.count(5), 12);
        KingTies z = oneCouple();
        Check.same("none of a giver", z.die(0), 0);
        Check.same("what was given to her", z.die(1), 1);
    }

    @Sentence(of = "Promise 8", says = "Throws `IndexOutOfBoundsException` if there is no such person")
    static void promise08_throwsIfThereIsNoSuchPerson() {
        for (int one : Worlds.notBelow(8)) {
            Twins.refuseIndex("die(" + one + ")", Worlds::rich, x -> x.die(one));
        }
        for (int one : Worlds.notBelow(40)) {
            Twins.refuseIndex("die(" + one + ") with 40", Worlds::full, x -> x.die(one));
        }
    }

    @Sentence(of = "Promise 8", says = "Throws `IllegalStateException` if this one has died already")
    static void promise08_throwsIfThisOneHasDiedAlready() {
        Twins.refuseState("died by a call", Worlds::rich, x -> x.die(6));
        Twins.refuseState("died in this year", () -> coupleWithout(0), x -> x.die(0));
        Twins.refuseState("died by age", TiesBoundaryTest::diedByAge, x -> x.die(0));
        Check.same("one of 79 dies by a call", diedByAge().die(1), 0);
    }

    private static KingTies diedByAge() {
        KingTies x = new KingTies();
        x.come(true, 60);
        x.come(true, 59);
        x.pass(20);
        return x;
    }

    // ---- promise 12

    private static void steps(KingTies x, int a, int b, int due) {
        Check.same("related(" + a + ", " + b + ")", x.related(a, b), due);
        Check.same("related(" + b + ", " + a + ")", x.related(b, a), due);
    }

    @Sentence(of = "Promise 12", says = "a person")
    static void promise12_anyTwoAreAsked() {
        KingTies x = Worlds.full();
        steps(x, 39, 39, 0);
        steps(x, 0, 39, -1);
        steps(x, 0, 0, 0);
    }

    @Sentence(of = "Promise 12", says = "Returns by how many steps they are related; -1 if they are not.")
    static void promise12_theStepsAreReturned() {
        KingTies x = kin();
        int[][] due = {{0, -1, 1, 1, 1, -1, 2, 2, -1, 2}, {-1, 0, 1, 1, 1, -1, 2, 2, -1, 2},
            {1, 1, 0, 2, 2, -1, 3, 3, -1, 3}, {1, 1, 2, 0, 2, -1, 3, 3, -1, 1}, {1, 1, 2, 2, 0, -1, 1, 1, -1, 3},
            {-1, -1, -1, -1, -1, 0, 1, 1, -1, -1}, {2, 2, 3, 3, 1, 1, 0, 2, -1, 4}, {2, 2, 3, 3, 1, 1, 2, 0, -1, 4},
            {-1, -1, -1, -1, -1, -1, -1, -1, 0, 1}, {2, 2, 3, 1, 3, -1, 4, 4, 1, 0}};
        for (int a = 0; a < 10; a++) {
            for (int b = 0; b < 10; b++) {
                Check.same("related(" + a + ", " + b + ")", x.related(a, b), due[a][b]);
            }
        }
        x.pass(100);
        steps(x, 6, 9, 4);
        steps(x, 0, 1, -1);
        Check.same("many steps", manySteps(), 12);
    }

    /** Two lines of six generations from one couple: the steps between the youngest of both. */
    private static int manySteps() {
        KingTies x = new KingTies();
        x.come(true, 20);
        x.come(false, 20);
        x.marry(0, 1, -1);
        int one = x.bear(1, true);
        int other = x.bear(1, true);
        for (int generation = 1; generation < 6; generation++) {
            x.pass(16);
            one = childOf(x, one);
            other = childOf(x, other);
        }
        return x.related(one, other);
    }

    private static int childOf(KingTies x, int father) {
        int wife = x.come(false, 16);
        x.marry(father, wife, -1);
        return x.bear(wife, true);
    }

    @Sentence(of = "Promise 12", says = "Throws `IndexOutOfBoundsException` if there is no such person")
    static void promise12_throwsIfThereIsNoSuchPerson() {
        for (int one : Worlds.notBelow(8)) {
            Twins.refuseIndex("related(" + one + ", 0)", Worlds::rich, x -> x.related(one, 0));
            Twins.refuseIndex("related(0, " + one + ")", Worlds::rich, x -> x.related(0, one));
            Twins.refuseIndex("related of nobody with nobody", Worlds::rich, x -> x.related(one, one));
        }
        for (int one : Worlds.notBelow(40)) {
            Twins.refuseIndex("related(" + one + ", 39) with 40", Worlds::full, x -> x.related(one, 39));
            Twins.refuseIndex("related(39, " + one + ") with 40", Worlds::full, x -> x.related(39, one));
        }
    }
}
