/** The sentences of "Terms" on lines, heirs, regents, deaths and treaties. */
public final class HeirsBoundaryTest {
    public static void main(String[] args) {
        Sentences.run(HeirsBoundaryTest.class);
    }

    private static void heirs(String state, KingTies x, int... due) {
        int before = x.land(0, 1);
        for (int law = 0; law < due.length; law++) {
            x.setLaw(0, law);
            Check.same("heir by the law " + law + ", " + state, x.land(0, 4), due[law]);
        }
        x.setLaw(0, before);
    }

    /** Whoever is the heir of the land 0 dies, until there is none: this is the order of all heirs. */
    private static void order(String name, KingTies x, int law, int... due) {
        x.setLaw(0, law);
        for (int heir : due) {
            Check.same(name + ": the next heir", x.land(0, 4), heir);
            x.die(heir);
        }
        Check.same(name + ": no heir is left", x.land(0, 4), -1);
    }

    @Sentence(of = "Terms", says = {"Line of a person by a law 0 to 2: the children one after the other, "
        + "by the law 0 first sons, then daughters, both as they are before each other in age"})
    static void terms_lineByTheLaw0() {
        order("sons, then daughters", Worlds.family(), 0, 3, 4, 2, 5);
    }

    @Sentence(of = "Terms", says = "by the law 1 all as they are before each other in age")
    static void terms_lineByTheLaw1() {
        order("all by age", Worlds.family(), 1, 2, 3, 4, 5);
    }

    @Sentence(of = "Terms", says = "by the law 2 all the other way round.")
    static void terms_lineByTheLaw2() {
        order("the youngest first", Worlds.family(), 2, 5, 4, 3, 2);
    }

    /**
     * A king of 20 and his son 2, daughter 3 and son 4, 20 years later: the elder son has a daughter 7, his sister a son 8.
     * The land 0 is the king's.
     */
    private static KingTies grandchildren() {
        KingTies x = new KingTies();
        x.come(true, 20);
        x.come(false, 20);
        x.found(5, 0, 0);
        x.marry(0, 1, -1);
        x.bear(1, true);
        x.bear(1, false);
        x.bear(1, true);
        x.pass(20);
        x.come(false, 20);
        x.come(true, 20);
        x.marry(2, 5, -1);
        x.marry(3, 6, -1);
        x.bear(5, false);
        x.bear(3, true);
        return x;
    }

    @Sentence(of = "Terms", says = "The first of a line is, child by child, the child, if it lives")
    static void terms_firstOfALineIsAChildThatLives() {
        KingTies x = grandchildren();
        heirs("while the children live", x, 2, 2, 4);
        x.die(7);
        heirs("a child needs no line", x, 2, 2, 4);
    }

    @Sentence(of = "Terms", says = "otherwise the first of its own line, if there is one")
    static void terms_firstOfALineIsOfADeadChildsLine() {
        KingTies x = grandchildren();
        x.die(2);
        heirs("the dead son's daughter is ahead of his brother and his sister", x, 7, 7, 4);
        x.die(4);
        heirs("behind the youngest, who has no line, his sister", x, 7, 7, 3);
        x.die(3);
        heirs("grandchildren alone", x, 7, 7, 8);
        x.found(6, 0, 1);
        Check.same("the queen's line, by her dead son", x.land(1, 4), 7);
        x.setLaw(1, 2);
        Check.same("the queen's line, by her dead daughter", x.land(1, 4), 8);
        x.pass(16);
        x.come(true, 20);
        x.marry(9, 7, -1);
        x.bear(7, true);
        x.die(7);
        heirs("a great-grandson for the dead granddaughter", x, 10, 10, 8);
    }

    @Sentence(of = "Terms", says = "none, if no child tells one.")
    static void terms_noFirstOfALineIfNoChildTellsOne() {
        KingTies x = grandchildren();
        for (int one : new int[] {2, 3, 4, 7, 8}) {
            x.die(one);
        }
        heirs("of dead children and grandchildren", x, -1, -1, -1);
        KingTies y = Worlds.couple();
        y.found(5, 0, 0);
        heirs("without children", y, -1, -1, -1, -1);
    }

    /** 5 she rules the land 0; she has no child. Her father 0 has a son 6 of another one, her mother 1 a son 4. */
    private static KingTies halfBrothers() {
        KingTies x = new KingTies();
        x.come(true, 30);
        x.come(false, 25);
        x.come(true, 40);
        x.come(false, 22);
        x.marry(2, 1, -1);
        x.bear(1, true);
        x.annul(1);
        x.marry(0, 1, -1);
        x.bear(1, false);
        x.annul(1);
        x.marry(0, 3, -1);
        x.bear(3, true);
        x.found(5, 0, 5);
        return x;
    }

    @Sentence(of = "Terms", says = "Heir of a ruler by a law 0 to 2: the first of the ruler's line, if there is one")
    static void terms_heirIsTheFirstOfTheRulersLine() {
        KingTies x = halfBrothers();
        x.pass(16);
        x.come(true, 20);
        x.marry(5, 7, -1);
        x.bear(5, false);
        heirs("a daughter, ahead of all brothers", x, 8, 8, 8);
        x.pass(16);
        x.come(true, 20);
        x.marry(8, 9, -1);
        x.bear(8, false);
        x.die(8);
        heirs("a granddaughter, ahead of all brothers", x, 10, 10, 10);
    }

    @Sentence(of = "Terms", says = "otherwise the first of the father's line")
    static void terms_heirIsThenOfTheFathersLine() {
        KingTies x = halfBrothers();
        heirs("the father's son, ahead of the mother's, who is older", x, 6, 6, 6);
        x.die(0);
        heirs("of a dead father too", x, 6, 6, 6);
    }

    @Sentence(of = "Terms", says = "otherwise the first of the mother's line")
    static void terms_heirIsThenOfTheMothersLine() {
        KingTies x = halfBrothers();
        x.die(6);
        heirs("the mother's son", x, 4, 4, 4);
        x.die(1);
        heirs("of a dead mother too", x, 4, 4, 4);
    }

    @Sentence(of = "Terms", says = "otherwise none. (The ruler is left out in all of them.)")
    static void terms_noHeirAndNeverTheRuler() {
        KingTies x = halfBrothers();
        x.die(6);
        x.die(4);
        heirs("the parents and the ruler alone", x, -1, -1, -1);
        KingTies y = Worlds.family();
        y.found(5, 1, 2);
        y.found(5, 2, 5);
        y.found(5, 0, 3);
        Check.same("the first child rules, by the law 1", y.land(1, 4), 3);
        Check.same("the last child rules, by the law 2", y.land(2, 4), 4);
        Check.same("the first son rules, by the law 0", y.land(3, 4), 4);
        KingTies z = new KingTies();
        z.come(true, 20);
        z.found(5, 0, 0);
        heirs("of one without parents", z, -1, -1, -1, -1);
    }

    /** A son in each of seven generations; the first one's father has a son in his old days too, who rules. */
    @Sentence(of = "Terms", says = "otherwise the first of its own line, if there is one")
    static void terms_aLineGoesDownManyGenerations() {
        KingTies x = new KingTies();
        x.come(true, 16);
        x.come(false, 16);
        x.marry(0, 1, -1);
        int youngest = x.bear(1, true);
        int ruler = -1;
        for (int generation = 1; generation < 7; generation++) {
            x.pass(16);
            if (generation == 3) {
                ruler = x.bear(1, true);
                x.found(5, 1, ruler);
            }
            int wife = x.come(false, 16);
            x.marry(youngest, wife, -1);
            youngest = x.bear(wife, true);
        }
        for (int one = 0; one < youngest; one++) {
            if (one != ruler && x.person(one, 2) == 1) {
                x.die(one);
            }
        }
        Check.same("two live", x.count(2), 2);
        Check.same("the uncle rules", x.land(0, 2), ruler);
        heirs("of the seventh generation", x, youngest, youngest, youngest, youngest);
        x.die(youngest);
        heirs("behind its death", x, -1, -1, -1, -1);
    }

    @Sentence(of = "Terms", says = {"By the law 3: of all living persons that are related to the ruler, "
        + "without this one, the one that is before all others in age."})
    static void terms_heirByTheLaw3() {
        KingTies x = Worlds.family();
        x.come(true, 60);
        x.setLaw(0, 3);
        Check.same("of twins the smaller number; not the wife, nor a stranger", x.land(0, 4), 2);
        x.found(6, 3, 4);
        Check.same("the father, who is the oldest one of all kin", x.land(1, 4), 0);
        x.die(0);
        Check.same("not one who has died", x.land(1, 4), 1);
        x.die(1);
        Check.same("a sister", x.land(1, 4), 2);
        order("the brothers and sisters, not the ruler", x, 3, 3, 4, 5);
    }

    @Sentence(of = "Terms", says = "Regent of a ruler younger than 16: the mother, if she lives")
    static void terms_theMotherIsRegent() {
        KingTies x = Worlds.family();
        x.found(6, 0, 3);
        Check.same("the mother", x.land(1, 3), 1);
        x.pass(14);
        Check.same("the mother at 15", x.land(1, 3), 1);
        x.pass(1);
        Check.same("nobody at 16", x.land(1, 3), -1);
        Check.same("nobody for a grown one", x.land(0, 3), -1);
    }

    @Sentence(of = "Terms", says = "otherwise the father, if he lives")
    static void terms_theFatherIsRegent() {
        KingTies x = Worlds.family();
        x.found(6, 0, 3);
        x.die(1);
        Check.same("the father", x.land(1, 3), 0);
        x.pass(14);
        Check.same("the father at 15", x.land(1, 3), 0);
        x.pass(1);
        Check.same("nobody at 16", x.land(1, 3), -1);
    }

    @Sentence(of = "Terms", says = "otherwise, of living persons of an age of 16 or more that are related to the ruler")
    static void terms_theRegentIsGrownKin() {
        KingTies x = Worlds.family();
        x.come(true, 40);
        x.pass(14);
        x.bear(1, true);
        x.found(6, 0, 7);
        x.die(0);
        x.die(1);
        Check.same("nobody while the eldest are 15", x.land(1, 3), -1);
        x.pass(1);
        Check.same("a sister of 16", x.land(1, 3), 2);
        x.die(2);
        x.die(3);
        Check.same("nobody, neither the dead, nor the young, nor strangers", x.land(1, 3), -1);
    }

    /**
     * 0 he and 1 she; their twin sons 2 and 3; 2 and a wife 4 have 5 and, five years later, 6, who rules.
     * 5 is 16 by now; the parents 2 and 4 have died.
     */
    private static KingTies orphan() {
        KingTies x = new KingTies();
        x.come(true, 16);
        x.come(false, 16);
        x.marry(0, 1, -1);
        x.bear(1, true);
        x.bear(1, true);
        x.pass(16);
        x.come(false, 20);
        x.marry(2, 4, -1);
        x.bear(4, true);
        x.pass(5);
        x.bear(4, false);
        x.found(9, 0, 6);
        x.pass(11);
        x.die(2);
        x.die(4);
        return x;
    }

    @Sentence(of = "Terms", says = "the one by the fewest steps")
    static void terms_theNearestKinIsRegent() {
        KingTies x = orphan();
        x.die(0);
        x.die(1);
        Check.same("a brother, ahead of an uncle, who is older", x.land(0, 3), 5);
        x.die(5);
        Check.same("the uncle", x.land(0, 3), 3);
    }

    @Sentence(of = "Terms", says = "of several the one that is before the others in age")
    static void terms_ofSeveralTheEldestIsRegent() {
        KingTies x = orphan();
        Check.same("of grandparents and a brother, all by 2 steps, the eldest of the smallest number", x.land(0, 3), 0);
        x.die(0);
        Check.same("the grandmother, ahead of the brother", x.land(0, 3), 1);
        KingTies y = Worlds.family();
        y.die(2);
        y.die(3);
        y.pass(10);
        y.bear(1, true);
        y.found(6, 0, 6);
        y.die(0);
        y.die(1);
        y.pass(6);
        Check.same("of twins the one of the smaller number", y.land(1, 3), 4);
        bornEarlierWithAGreaterNumber();
    }

    /** The grandparents of both sides: those of the mother come later, and are older. */
    private static void bornEarlierWithAGreaterNumber() {
        KingTies x = new KingTies();
        x.come(true, 16);
        x.come(false, 16);
        x.come(true, 18);
        x.come(false, 17);
        x.marry(0, 1, -1);
        x.marry(2, 3, -1);
        x.bear(1, true);
        x.bear(3, false);
        x.pass(16);
        x.marry(4, 5, -1);
        x.bear(5, true);
        x.found(5, 0, 6);
        x.die(4);
        x.die(5);
        Check.same("the eldest grandparent", x.land(0, 3), 2);
        x.die(2);
        Check.same("the next one", x.land(0, 3), 3);
    }

    @Sentence(of = "Terms", says = "otherwise nobody.")
    static void terms_nobodyIsRegent() {
        KingTies x = new KingTies();
        x.come(true, 0);
        x.come(false, 60);
        x.found(5, 0, 0);
        Check.same("without kin", x.land(0, 3), -1);
        KingTies y = Worlds.family();
        y.found(6, 0, 3);
        y.die(0);
        y.die(1);
        Check.same("with young kin alone", y.land(1, 3), -1);
    }

    @Sentence(of = "Terms", says = {"All lands of the one who dies go to the heir by the law of each "
        + "(all as it is ahead of that, but this one does not live any more)"})
    static void terms_allLandsGoToTheHeirByTheLawOfEach() {
        KingTies x = Worlds.family();
        x.found(6, 1, 0);
        x.found(7, 2, 0);
        x.found(8, 3, 0);
        x.found(9, 0, 1);
        x.found(10, 0, -1);
        x.die(0);
        int[] due = {3, 2, 5, 2, 1, -1};
        for (int land = 0; land < due.length; land++) {
            Check.same("the ruler of the land " + land, x.land(land, 2), due[land]);
        }
        x.setLaw(1, 3);
        x.die(2);
        Check.same("not to the one who dies, but to the mother", x.land(1, 2), 1);
        Check.same("the same for the next land", x.land(3, 2), 1);
        Check.same("each is one change", x.land(1, 5), 3);
    }

    @Sentence(of = "Terms", says = "the marriage ends, and with it its treaty.")
    static void terms_deathEndsMarriageAndTreaty() {
        KingTies x = Worlds.strangers();
        x.found(7, 0, 0);
        x.marry(0, 1, 0);
        x.die(0);
        Check.same("the widow is married to nobody", x.person(1, 5), -1);
        Check.same("the dead is married to nobody", x.person(0, 5), -1);
        Check.same("no marriage is left", x.count(3), 0);
        Check.same("she rules what was given", x.land(0, 2), 1);
        x.marry(1, 2, -1);
        Check.same("nothing goes back by the next marriage", x.annul(1), -1);
        Check.same("she rules it still", x.land(0, 2), 1);
        x.marry(1, 2, 0);
        x.die(2);
        Check.same("of one who dies it goes to the heirs, not back", x.land(0, 2), -1);
        Check.same("the marriage ends by age too", marriedOneOf80().count(3), 0);
        theHeirOfTheDeadTakerIsMarried();
    }

    /** 6 he gives his land to 2, who dies; her sister 5 inherits it, and he marries and leaves her too. */
    private static void theHeirOfTheDeadTakerIsMarried() {
        KingTies x = Worlds.family();
        x.pass(16);
        x.come(true, 20);
        x.found(9, 2, 6);
        x.marry(6, 2, 1);
        x.die(2);
        Check.same("the sister inherits", x.land(1, 2), 5);
        x.marry(6, 5, -1);
        Check.same("nothing goes back by the treaty that has ended", x.annul(6), -1);
        Check.same("the sister rules it still", x.land(1, 2), 5);
    }

    private static KingTies marriedOneOf80() {
        KingTies x = new KingTies();
        x.come(true, 60);
        x.come(false, 20);
        x.marry(0, 1, -1);
        x.pass(20);
        return x;
    }

    @Sentence(of = "Terms", says = {"With a marriage a land can be given by one of both to the other one, who rules it then."})
    static void terms_aLandIsGivenByEither() {
        KingTies x = Worlds.strangers();
        x.found(7, 0, 0);
        x.found(8, 0, 3);
        x.found(9, 0, 0);
        x.marry(0, 1, 0);
        x.marry(2, 3, 1);
        Check.same("given by the first one", x.land(0, 2), 1);
        Check.same("given by the second one", x.land(1, 2), 2);
        Check.same("not given", x.land(2, 2), 0);
        KingTies y = Worlds.strangers();
        y.found(7, 0, 0);
        y.marry(0, 1, -1);
        Check.same("given by nobody", y.land(0, 2), 0);
    }

    @Sentence(of = "Terms", says = {"If the marriage is annulled, and the one to whom it was given rules this land, "
        + "the one who gave it rules it again."})
    static void terms_anAnnulledMarriageGivesTheLandBack() {
        KingTies x = Worlds.strangers();
        x.found(7, 0, 0);
        x.found(8, 0, 1);
        x.marry(0, 1, 0);
        x.annul(0);
        Check.same("the land is back", x.land(0, 2), 0);
        Check.same("hers is hers", x.land(1, 2), 1);
        x.marry(0, 1, 1);
        x.annul(0);
        Check.same("her land is back", x.land(1, 2), 1);
        x.marry(0, 1, -1);
        x.annul(1);
        Check.same("his is his", x.land(0, 2), 0);
        x.marry(0, 1, 0);
        x.die(1);
        x.marry(0, 3, -1);
        x.annul(0);
        Check.same("what she left does not come back", x.land(0, 2), -1);
    }
}
