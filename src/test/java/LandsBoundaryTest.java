/** The sentences of the promises 4 (found), 5 (setLaw), 10 (land) and 11 (ruled). */
public final class LandsBoundaryTest {
    public static void main(String[] args) {
        Sentences.run(LandsBoundaryTest.class);
    }

    // ---- promise 4

    @Sentence(of = "Promise 4", says = "the worth of a new land")
    static void promise04_theWorthIs1To50() {
        KingTies x = Worlds.couple();
        for (int worth : new int[] {1, 2, 49, 50}) {
            int land = x.found(worth, 0, 0);
            Check.same("worth of a land of " + worth, x.land(land, 0), worth);
        }
    }

    @Sentence(of = "Promise 4", says = "its law")
    static void promise04_theLawIs0To3() {
        KingTies x = new KingTies();
        for (int law = 0; law < 4; law++) {
            Check.same("the law " + law, x.land(x.found(5, law, -1), 1), law);
        }
    }

    @Sentence(of = "Promise 4", says = "its ruler, -1 for none")
    static void promise04_theRulerIsAPersonOrNone() {
        KingTies x = Worlds.couple();
        x.found(5, 0, -1);
        x.found(5, 0, 0);
        x.found(5, 0, 1);
        for (int land = 0; land < 3; land++) {
            Check.same("ruler of the land " + land, x.land(land, 2), land - 1);
            Check.same("rulers of the land " + land, x.land(land, 5), land == 0 ? 0 : 1);
        }
        KingTies y = new KingTies();
        Check.same("a land without persons", y.found(5, 0, -1), 0);
        Check.same("the 40th one rules", ruledBy39().land(0, 2), 39);
    }

    private static KingTies ruledBy39() {
        KingTies x = Worlds.full();
        x.found(5, 0, 39);
        return x;
    }

    @Sentence(of = "Promise 4", says = "Returns its number.")
    static void promise04_theNumberIsReturned() {
        KingTies x = Worlds.couple();
        for (int land = 0; land < 12; land++) {
            Check.same("found, one behind the other", x.found(50 - land, land % 4, land % 3 - 1), land);
        }
    }

    @Sentence(of = "Promise 4", says = "Throws `IllegalArgumentException` if worth is not 1 to 50")
    static void promise04_throwsIfWorthIsNot1To50() {
        for (int worth : new int[] {0, 51, -1, Integer.MIN_VALUE, Integer.MAX_VALUE}) {
            Twins.refuseArgument("found(" + worth + ", 0, 0)", Worlds::rich, x -> x.found(worth, 0, 0));
            Twins.refuseArgument("found(" + worth + ", 3, -1)", KingTies::new, x -> x.found(worth, 3, -1));
        }
        Check.same("found(1, 0, 0) is not refused", Worlds.rich().found(1, 0, 0), 4);
        Check.same("found(50, 0, 0) is not refused", Worlds.rich().found(50, 0, 0), 4);
    }

    @Sentence(of = "Promise 4", says = "or law is not 0 to 3")
    static void promise04_throwsIfLawIsNot0To3() {
        for (int law : Worlds.notBelow(4)) {
            Twins.refuseArgument("found(1, " + law + ", 0)", Worlds::rich, x -> x.found(1, law, 0));
            Twins.refuseArgument("found(50, " + law + ", -1)", KingTies::new, x -> x.found(50, law, -1));
        }
        Check.same("found(1, 0, 0) is not refused", Worlds.rich().found(1, 0, 0), 4);
        Check.same("found(1, 3, 0) is not refused", Worlds.rich().found(1, 3, 0), 4);
    }

    @Sentence(of = "Promise 4", says = "Throws `IndexOutOfBoundsException` if there is no such person, and it is not -1")
    static void promise04_throwsIfThereIsNoSuchPerson() {
        for (int ruler : Worlds.notBelowNorNone(8)) {
            Twins.refuseIndex("found(5, 0, " + ruler + ")", Worlds::rich, x -> x.found(5, 0, ruler));
        }
        for (int ruler : Worlds.notBelowNorNone(40)) {
            Twins.refuseIndex("found(5, 0, " + ruler + ") with 40", Worlds::full, x -> x.found(5, 0, ruler));
        }
        for (int ruler : Worlds.notBelowNorNone(0)) {
            Twins.refuseIndex("found(5, 0, " + ruler + ") without persons", KingTies::new, x -> x.found(5, 0, ruler));
        }
    }

    @Sentence(of = "Promise 4", says = "Throws `IllegalStateException` if there are 12")
    static void promise04_throwsIfThereAre12() {
        Twins.refuseState("found with 12 and a ruler", Worlds::fullOfLands, x -> x.found(5, 0, 0));
        Twins.refuseState("found with 12 and no ruler", Worlds::fullOfLands, x -> x.found(5, 0, -1));
        Twins.refuseState("found with 12 and a dead ruler", Worlds::fullOfLands, x -> x.found(5, 0, 2));
        KingTies x = Worlds.couple();
        for (int land = 0; land < 11; land++) {
            x.found(5, 0, -1);
        }
        Check.same("the 12th one", x.found(5, 0, 0), 11);
        Check.refusesState(x, "the 13th one", () -> x.found(5, 0, 0));
    }

    @Sentence(of = "Promise 4", says = "or the ruler has died")
    static void promise04_throwsIfTheRulerHasDied() {
        Twins.refuseState("found(5, 0, 6)", Worlds::rich, x -> x.found(5, 0, 6));
        KingTies x = new KingTies();
        x.come(true, 60);
        x.pass(19);
        Check.same("a ruler of 79", x.found(5, 0, 0), 0);
        x.pass(1);
        Check.refusesState(x, "a ruler who died at 80", () -> x.found(5, 0, 0));
    }

    // ---- promise 5

    @Sentence(of = "Promise 5", says = "a land")
    static void promise05_theLawOfThisLandIsSet() {
        KingTies x = Worlds.fullOfLands();
        x.setLaw(11, 0);
        x.setLaw(0, 3);
        int[] due = {3, 1, 2, 3, 0, 1, 2, 3, 0, 1, 2, 0};
        for (int land = 0; land < due.length; land++) {
            Check.same("the law of the land " + land, x.land(land, 1), due[land]);
        }
    }

    @Sentence(of = "Promise 5", says = "its law from now on")
    static void promise05_theLawHoldsFromNowOn() {
        KingTies x = Worlds.family();
        int[] due = {3, 2, 5, 2};
        for (int law = 0; law < 4; law++) {
            x.setLaw(0, law);
            Check.same("the law " + law, x.land(0, 1), law);
            Check.same("the heir by the law " + law, x.land(0, 4), due[law]);
            Check.same("the ruler by the law " + law, x.land(0, 2), 0);
        }
        x.setLaw(0, 2);
        x.die(0);
        Check.same("who inherits by the last one", x.land(0, 2), 5);
    }

    @Sentence(of = "Promise 5", says = "Returns the law before.")
    static void promise05_theLawBeforeIsReturned() {
        KingTies x = new KingTies();
        x.found(5, 2, -1);
        Check.same("the first one", x.setLaw(0, 3), 2);
        Check.same("the greatest one", x.setLaw(0, 0), 3);
        Check.same("the least one", x.setLaw(0, 0), 0);
        Check.same("the least one, set again", x.setLaw(0, 1), 0);
    }

    @Sentence(of = "Promise 5", says = "Throws `IndexOutOfBoundsException` if there is no such land")
    static void promise05_throwsIfThereIsNoSuchLand() {
        for (int land : Worlds.notBelow(4)) {
            Twins.refuseIndex("setLaw(" + land + ", 0)", Worlds::rich, x -> x.setLaw(land, 0));
            Twins.refuseIndex("setLaw(" + land + ", 4)", Worlds::rich, x -> x.setLaw(land, 4));
        }
        for (int land : Worlds.notBelow(12)) {
            Twins.refuseIndex("setLaw(" + land + ", 3) with 12", Worlds::fullOfLands, x -> x.setLaw(land, 3));
        }
    }

    @Sentence(of = "Promise 5", says = "Throws `IllegalArgumentException` if law is not 0 to 3")
    static void promise05_throwsIfLawIsNot0To3() {
        for (int law : Worlds.notBelow(4)) {
            Twins.refuseArgument("setLaw(3, " + law + ")", Worlds::rich, x -> x.setLaw(3, law));
        }
        Check.same("setLaw(3, 0) is not refused", Worlds.rich().setLaw(3, 0), 2);
        Check.same("setLaw(3, 3) is not refused", Worlds.rich().setLaw(3, 3), 2);
    }

    // ---- promise 10

    @Sentence(of = "Promise 10", says = "a land")
    static void promise10_eachLandIsTold() {
        KingTies x = Worlds.fullOfLands();
        for (int land = 0; land < 12; land++) {
            Check.same("land(" + land + ", 0)", x.land(land, 0), 1 + land);
            Check.same("land(" + land + ", 2)", x.land(land, 2), land % 2 == 0 ? 0 : -1);
        }
    }

    @Sentence(of = "Promise 10", says = "0 its worth")
    static void promise10_what0IsTheWorth() {
        KingTies x = Worlds.rich();
        int[] due = {7, 11, 13, 5};
        for (int land = 0; land < due.length; land++) {
            Check.same("land(" + land + ", 0)", x.land(land, 0), due[land]);
        }
    }

    @Sentence(of = "Promise 10", says = "1 its law")
    static void promise10_what1IsTheLaw() {
        KingTies x = Worlds.rich();
        int[] due = {0, 1, 3, 2};
        for (int land = 0; land < due.length; land++) {
            Check.same("land(" + land + ", 1)", x.land(land, 1), due[land]);
        }
    }

    @Sentence(of = "Promise 10", says = "2 its ruler, -1 for none")
    static void promise10_what2IsTheRuler() {
        KingTies x = Worlds.rich();
        int[] due = {1, 1, -1, -1};
        for (int land = 0; land < due.length; land++) {
            Check.same("land(" + land + ", 2)", x.land(land, 2), due[land]);
        }
        x.annul(0);
        Check.same("the ruler of the number 0", x.land(0, 2), 0);
    }

    @Sentence(of = "Promise 10", says = "3 the regent, -1 for nobody (also if the ruler needs none)")
    static void promise10_what3IsTheRegent() {
        KingTies x = Worlds.rich();
        x.found(5, 0, 2);
        x.found(5, 0, 4);
        Check.same("the ruler needs none", x.land(0, 3), -1);
        Check.same("no ruler is there", x.land(2, 3), -1);
        Check.same("the ruler has died without heirs", x.land(3, 3), -1);
        Check.same("the mother", x.land(4, 3), 1);
        Check.same("nobody is kin", x.land(5, 3), -1);
        x.die(1);
        Check.same("the father, of the number 0", x.land(4, 3), 0);
        x.pass(14);
        Check.same("at 15", x.land(4, 3), 0);
        x.pass(1);
        Check.same("at 16", x.land(4, 3), -1);
    }

    @Sentence(of = "Promise 10", says = "4 the heir of the ruler by its law, as if this one died now, -1 for none")
    static void promise10_what4IsTheHeir() {
        KingTies x = Worlds.family();
        x.found(6, 1, 5);
        x.found(6, 0, -1);
        x.come(true, 20);
        x.found(6, 3, 6);
        for (int land = 0; land < 4; land++) {
            long before = x.digest();
            int heir = x.land(land, 4);
            Check.same("the heir of the land " + land, heir, new int[] {3, 2, -1, -1}[land]);
            Check.same("nothing is changed by the question", x.digest(), before);
        }
        x.die(5);
        Check.same("the heir rules", x.land(1, 2), 2);
        x.die(6);
        Check.same("none rules", x.land(3, 2), -1);
        Check.same("none is the heir of none", x.land(3, 4), -1);
        x.die(2);
        x.setLaw(0, 3);
        x.setLaw(1, 3);
        Check.same("the heir of the number 0", x.land(1, 4), 0);
    }

    @Sentence(of = "Promise 10", says = {"5 how many rulers it has had, each change counted "
        + "(with the first one; having none is none)"})
    static void promise10_what5IsTheNumberOfRulers() {
        KingTies x = Worlds.strangers();
        x.found(5, 0, -1);
        x.found(5, 0, 0);
        Check.same("having none", x.land(0, 5), 0);
        Check.same("the first one", x.land(1, 5), 1);
        x.marry(0, 1, 1);
        Check.same("given", x.land(1, 5), 2);
        x.annul(0);
        Check.same("given back, the same one again", x.land(1, 5), 3);
        x.die(0);
        Check.same("having none behind a death", x.land(1, 5), 3);
        Check.same("more than are kept", Worlds.changed(100).land(0, 5), 101);
        KingTies y = Worlds.family();
        y.die(0);
        Check.same("inherited", y.land(0, 5), 2);
        y.pass(79);
        Check.same("inherited by the age of 80", y.land(0, 5), 3);
    }

    @Sentence(of = "Promise 10", says = "Throws `IndexOutOfBoundsException` if there is no such land")
    static void promise10_throwsIfThereIsNoSuchLand() {
        for (int land : Worlds.notBelow(4)) {
            for (int what : new int[] {0, 3, 4, 5, 6}) {
                Twins.refuseIndex("land(" + land + ", " + what + ")", Worlds::rich, x -> x.land(land, what));
            }
        }
        for (int land : Worlds.notBelow(12)) {
            Twins.refuseIndex("land(" + land + ", 0) with 12", Worlds::fullOfLands, x -> x.land(land, 0));
        }
    }

    @Sentence(of = "Promise 10", says = "or what is not 0 to 5")
    static void promise10_throwsIfWhatIsNot0To5() {
        for (int what : Worlds.notBelow(6)) {
            Twins.refuseIndex("land(0, " + what + ")", Worlds::rich, x -> x.land(0, what));
            Twins.refuseIndex("land(2, " + what + ") without a ruler", Worlds::rich, x -> x.land(2, what));
        }
        Check.same("land(2, 0) is not refused", Worlds.rich().land(2, 0), 13);
        Check.same("land(2, 5) is not refused", Worlds.rich().land(2, 5), 0);
    }

    // ---- promise 11

    @Sentence(of = "Promise 11", says = "a land")
    static void promise11_theRulersOfThisLandAreTold() {
        KingTies x = Worlds.rich();
        Check.same("the latest one of the land 0", x.ruled(0, 0), 1);
        Check.same("the first one of the land 0", x.ruled(0, 1), 0);
        Check.same("the only one of the land 1", x.ruled(1, 0), 1);
        Check.same("the only one of the land 3, who has died", x.ruled(3, 0), 6);
        x.found(5, 0, 7);
        Check.same("the only one of the land 4", x.ruled(4, 0), 7);
    }

    @Sentence(of = "Promise 11", says = "how many rulers back: 0 the latest one, 1 the one ahead of this, and so on")
    static void promise11_backIsToldFromTheLatestOne() {
        KingTies x = Worlds.family();
        x.die(0);
        x.die(3);
        x.die(4);
        int[] due = {2, 4, 3, 0};
        for (int back = 0; back < due.length; back++) {
            Check.same("ruled(0, " + back + ")", x.ruled(0, back), due[back]);
        }
        x.die(2);
        x.die(5);
        Check.same("the latest one of a land that has none now", x.ruled(0, 0), 5);
        Check.same("the one ahead of this", x.ruled(0, 1), 2);
    }

    @Sentence(of = "Promise 11", says = "at most 15 are kept")
    static void promise11_atMost15AreKept() {
        KingTies x = Worlds.changed(14);
        Check.same("the first one of 15", x.ruled(0, 14), 0);
        Check.same("the next one of 15", x.ruled(0, 13), 1);
        KingTies y = Worlds.changed(15);
        for (int back = 0; back < 15; back++) {
            Check.same("ruled(0, " + back + ") of 16", y.ruled(0, back), back % 2 == 0 ? 1 : 0);
        }
        KingTies z = firstOneIsAnother();
        Check.same("the first one of 15, who is another", z.ruled(0, 14), 2);
        z.annul(0);
        Check.same("the second one of 16", z.ruled(0, 14), 0);
        Check.refusesIndex(z, "the first one of 16", () -> z.ruled(0, 15));
    }

    /** 15 rulers, of whom the first one is 2, and the others are 0 and 1 by turns, who are married now. */
    private static KingTies firstOneIsAnother() {
        KingTies x = new KingTies();
        x.come(true, 20);
        x.come(false, 20);
        x.come(false, 20);
        x.found(5, 0, 2);
        x.marry(2, 0, 0);
        x.die(2);
        for (int turn = 0; turn < 13; turn++) {
            if (turn % 2 == 0) {
                x.marry(0, 1, 0);
            } else {
                x.annul(0);
            }
        }
        return x;
    }

    @Sentence(of = "Promise 11", says = "Returns this ruler.")
    static void promise11_aRulerIsReturned() {
        KingTies x = ruledBy39();
        Check.same("the greatest number", x.ruled(0, 0), 39);
        x.die(39);
        Check.same("one who has died", x.ruled(0, 0), 39);
        Check.same("the least number", Worlds.family().ruled(0, 0), 0);
    }

    @Sentence(of = "Promise 11", says = "Throws `IndexOutOfBoundsException` if there is no such land")
    static void promise11_throwsIfThereIsNoSuchLand() {
        for (int land : Worlds.notBelow(4)) {
            Twins.refuseIndex("ruled(" + land + ", 0)", Worlds::rich, x -> x.ruled(land, 0));
        }
        for (int land : Worlds.notBelow(12)) {
            Twins.refuseIndex("ruled(" + land + ", 0) with 12", Worlds::fullOfLands, x -> x.ruled(land, 0));
        }
    }

    @Sentence(of = "Promise 11", says = "or there were not so many")
    static void promise11_throwsIfThereWereNotSoMany() {
        for (int back : Worlds.notBelow(2)) {
            Twins.refuseIndex("ruled(0, " + back + ") of two", Worlds::rich, x -> x.ruled(0, back));
        }
        for (int back : Worlds.notBelow(1)) {
            Twins.refuseIndex("ruled(3, " + back + ") of one", Worlds::rich, x -> x.ruled(3, back));
        }
        for (int back : Worlds.notBelow(0)) {
            Twins.refuseIndex("ruled(2, " + back + ") of none", Worlds::rich, x -> x.ruled(2, back));
        }
        Twins.refuseIndex("ruled(0, 14) of 14", () -> Worlds.changed(13), x -> x.ruled(0, 14));
    }

    @Sentence(of = "Promise 11", says = "or they are not kept any more")
    static void promise11_throwsIfTheyAreNotKeptAnyMore() {
        Twins.refuseIndex("ruled(0, 15) of 16", () -> Worlds.changed(15), x -> x.ruled(0, 15));
        Twins.refuseIndex("ruled(0, 15) of 31", () -> Worlds.changed(30), x -> x.ruled(0, 15));
        Twins.refuseIndex("ruled(0, 30) of 31", () -> Worlds.changed(30), x -> x.ruled(0, 30));
    }
}
