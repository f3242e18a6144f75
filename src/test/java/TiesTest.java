/** Promises 6 (marry), 7 (annul), 8 (die) and 12 (related). */
public final class TiesTest {
    public static void main(String[] args) {
        twoMarry();
        landsAreGivenByEither();
        marriagesAreRefused();
        kinMarryFromThreeStepsOn();
        landsGoBack();
        annulmentsAreRefused();
        theDeadLeaveLands();
        deathEndsTheTreaty();
        deathsAreRefused();
        kinshipIsTold();
        kinshipByTwoWays();
        Check.end();
    }

    private static KingTies fourGrown() {
        KingTies x = new KingTies();
        x.come(true, 30);
        x.come(false, 25);
        x.come(true, 16);
        x.come(false, 16);
        return x;
    }

    private static void twoMarry() {
        KingTies x = fourGrown();
        x.found(7, 0, 0);
        x.found(11, 0, 1);
        x.found(13, 0, 1);
        x.found(17, 0, 2);
        x.found(19, 0, -1);
        Check.same("marry(0, 1, -1)", x.marry(0, 1, -1), 31);
        Check.same("marry at 16, without lands", x.marry(3, 2, -1), 17);
        Check.same("the one is married to", x.person(0, 5), 1);
        Check.same("the other one is married to", x.person(1, 5), 0);
        Check.same("no land is given", x.land(0, 2), 0);
        Check.same("no land changes", x.land(0, 5), 1);
        Check.same("nothing goes back", x.annul(1), -1);
    }

    private static void landsAreGivenByEither() {
        KingTies x = fourGrown();
        x.found(7, 0, 0);
        x.found(11, 0, 1);
        x.found(13, 0, 3);
        Check.same("the first gives", x.marry(0, 1, 0), 18);
        Check.same("the land of the first", x.land(0, 2), 1);
        Check.same("the land of the second", x.land(1, 2), 1);
        Check.same("its rulers", x.land(0, 5), 2);
        Check.same("the second gives", x.marry(2, 3, 2), 13);
        Check.same("the land given by the second", x.land(2, 2), 2);
        Check.same("its latest ruler", x.ruled(2, 0), 2);
        Check.same("its ruler ahead of this", x.ruled(2, 1), 3);
    }

    private static void marriagesAreRefused() {
        KingTies x = fourGrown();
        x.come(false, 15);
        x.come(false, 40);
        x.found(7, 0, 2);
        x.found(8, 0, -1);
        x.die(5);
        for (int one : new int[] {-1, 6, Integer.MIN_VALUE, Integer.MAX_VALUE}) {
            Check.refusesIndex(x, "marry(" + one + ", 1, -1)", () -> x.marry(one, 1, -1));
            Check.refusesIndex(x, "marry(5, " + one + ", -1)", () -> x.marry(5, one, -1));
        }
        for (int land : new int[] {-2, 2, 12, Integer.MIN_VALUE, Integer.MAX_VALUE}) {
            Check.refusesIndex(x, "marry(0, 5, " + land + ")", () -> x.marry(0, 5, land));
        }
        Check.refusesState(x, "marry of a dead one", () -> x.marry(0, 5, -1));
        Check.refusesState(x, "marry of a dead one, named first", () -> x.marry(5, 0, -1));
        Check.refusesState(x, "marry at 15", () -> x.marry(0, 4, -1));
        Check.refusesState(x, "marry at 15, named first", () -> x.marry(4, 0, -1));
        Check.refusesState(x, "marry of two men", () -> x.marry(0, 2, -1));
        Check.refusesState(x, "marry of two women", () -> x.marry(1, 3, -1));
        Check.refusesState(x, "marry of one with oneself", () -> x.marry(0, 0, -1));
        Check.refusesState(x, "marry with a land of another one", () -> x.marry(0, 1, 0));
        Check.refusesState(x, "marry with a land without a ruler", () -> x.marry(0, 1, 1));
        x.marry(0, 1, -1);
        Check.refusesState(x, "marry again", () -> x.marry(0, 1, -1));
        Check.refusesState(x, "marry of a married man", () -> x.marry(0, 3, -1));
        Check.refusesState(x, "marry of a married woman", () -> x.marry(2, 1, -1));
        x.pass(1);
        Check.same("marry at 16 later", x.marry(2, 4, 0), 7);
    }

    private static void kinMarryFromThreeStepsOn() {
        KingTies x = new KingTies();
        x.come(true, 16);
        x.come(false, 16);
        x.marry(0, 1, -1);
        x.bear(1, true);
        x.bear(1, false);
        x.bear(1, true);
        x.come(false, 10);
        x.pass(16);
        Check.refusesState(x, "marry of siblings", () -> x.marry(2, 3, -1));
        x.annul(0);
        Check.refusesState(x, "marry of father and daughter", () -> x.marry(0, 3, -1));
        Check.refusesState(x, "marry of mother and son", () -> x.marry(2, 1, -1));
        x.marry(4, 5, -1);
        x.bear(5, false);
        x.bear(5, true);
        x.pass(16);
        Check.refusesState(x, "marry of grandfather and granddaughter", () -> x.marry(0, 6, -1));
        Check.refusesState(x, "marry of grandmother and grandson", () -> x.marry(7, 1, -1));
        Check.same("uncle and niece are related by", x.related(2, 6), 3);
        Check.same("marry of uncle and niece", x.marry(2, 6, -1), 0);
        x.annul(4);
        x.come(false, 20);
        x.marry(4, 8, -1);
        x.bear(8, false);
        x.pass(16);
        Check.same("half siblings are related by", x.related(7, 9), 2);
        Check.refusesState(x, "marry of half siblings", () -> x.marry(7, 9, -1));
    }

    private static void landsGoBack() {
        KingTies x = fourGrown();
        x.found(7, 0, 0);
        x.found(11, 0, 1);
        x.marry(0, 1, 0);
        Check.same("the giver annuls", x.annul(0), 0);
        Check.same("the land is back", x.land(0, 2), 0);
        Check.same("three rulers", x.land(0, 5), 3);
        Check.same("marriages", x.count(3), 0);
        Check.same("married to nobody", x.person(0, 5), -1);
        Check.same("she is married to nobody", x.person(1, 5), -1);
        x.marry(0, 1, 1);
        Check.same("the taker annuls", x.annul(0), 1);
        Check.same("the land is hers again", x.land(1, 2), 1);
        x.marry(0, 3, -1);
        Check.same("an ended treaty does not bind again", x.annul(3), -1);
        Check.same("her land stays", x.land(1, 2), 1);
        x.marry(0, 1, 0);
        x.setLaw(0, 2);
        Check.same("by another law it goes back too", x.annul(1), 0);
    }

    private static void annulmentsAreRefused() {
        KingTies x = fourGrown();
        for (int one : new int[] {-1, 4, 40, Integer.MIN_VALUE, Integer.MAX_VALUE}) {
            Check.refusesIndex(x, "annul(" + one + ")", () -> x.annul(one));
        }
        Check.refusesState(x, "annul of an unmarried one", () -> x.annul(0));
        x.marry(0, 1, -1);
        x.annul(1);
        Check.refusesState(x, "annul of one that is annulled", () -> x.annul(0));
        x.marry(0, 1, -1);
        x.die(1);
        Check.refusesState(x, "annul of a widower", () -> x.annul(0));
        Check.refusesState(x, "annul of a dead one", () -> x.annul(1));
    }

    private static void theDeadLeaveLands() {
        KingTies x = new KingTies();
        x.come(true, 30);
        x.come(false, 28);
        x.marry(0, 1, -1);
        x.bear(1, false);
        x.bear(1, true);
        x.bear(1, true);
        for (int law = 0; law < 4; law++) {
            x.found(10 + law, law, 0);
        }
        x.found(20, 0, 1);
        x.found(21, 0, -1);
        x.pass(3);
        Check.same("lands left by a child", x.die(4), 0);
        Check.same("lands left", x.die(0), 4);
        int[] due = {3, 2, 3, 2, 1, -1};
        for (int land = 0; land < due.length; land++) {
            Check.same("heir of land " + land, x.land(land, 2), due[land]);
        }
        Check.same("the year of death", x.person(0, 9), 3);
        Check.same("does not live", x.person(0, 2), 0);
        Check.same("marriages", x.count(3), 0);
        Check.same("the widow is free", x.person(1, 5), -1);
        Check.same("lands left by the son", x.die(3), 2);
        Check.same("the sister has all", x.person(2, 7), 4);
        x.setLaw(0, 3);
        Check.same("the law is asked at the death", x.die(2), 4);
        Check.same("the mother by the law 3", x.land(0, 2), 1);
        Check.same("nobody by the law 1", x.land(1, 2), -1);
        Check.same("rulers of the land without one", x.land(1, 5), 2);
    }

    private static void deathEndsTheTreaty() {
        KingTies x = fourGrown();
        x.found(7, 0, 0);
        x.marry(0, 1, 0);
        Check.same("the giver dies", x.die(0), 0);
        Check.same("the land stays", x.land(0, 2), 1);
        x.marry(1, 2, -1);
        Check.same("nothing goes back of the ended treaty", x.annul(1), -1);
        x.marry(1, 2, 0);
        Check.same("the taker dies", x.die(2), 1);
        Check.same("the heirs of the taker, not the giver", x.land(0, 2), -1);
        x.come(true, 20);
        x.marry(1, 4, -1);
        Check.same("nothing goes back to the widow", x.annul(4), -1);
    }

    private static void deathsAreRefused() {
        KingTies x = fourGrown();
        for (int one : new int[] {-1, 4, 40, Integer.MIN_VALUE, Integer.MAX_VALUE}) {
            Check.refusesIndex(x, "die(" + one + ")", () -> x.die(one));
        }
        x.die(0);
        Check.refusesState(x, "die again", () -> x.die(0));
        x.pass(64);
        Check.refusesState(x, "die of one who is dead by age", () -> x.die(3));
    }

    private static void steps(KingTies x, int a, int b, int due) {
        Check.same("related(" + a + ", " + b + ")", x.related(a, b), due);
        Check.same("related(" + b + ", " + a + ")", x.related(b, a), due);
    }

    private static void kinshipIsTold() {
        KingTies x = new KingTies();
        x.come(true, 20);
        x.come(false, 20);
        x.marry(0, 1, -1);
        x.bear(1, true);
        x.bear(1, false);
        x.pass(16);
        x.come(false, 20);
        x.come(true, 20);
        x.marry(2, 4, -1);
        x.marry(3, 5, -1);
        x.bear(4, true);
        x.bear(3, false);
        steps(x, 0, 0, 0);
        steps(x, 0, 1, -1);
        steps(x, 2, 0, 1);
        steps(x, 2, 1, 1);
        steps(x, 2, 3, 2);
        steps(x, 2, 4, -1);
        steps(x, 6, 0, 2);
        steps(x, 6, 3, 3);
        steps(x, 6, 5, -1);
        steps(x, 6, 7, 4);
        steps(x, 4, 5, -1);
        x.pass(80);
        steps(x, 6, 7, 4);
        for (int one : new int[] {-1, 8, 40, Integer.MIN_VALUE, Integer.MAX_VALUE}) {
            Check.refusesIndex(x, "related(" + one + ", 0)", () -> x.related(one, 0));
            Check.refusesIndex(x, "related(0, " + one + ")", () -> x.related(0, one));
        }
    }

    // The child of an uncle and a niece is related to the grandparents by 2 and by 3 steps.
    private static void kinshipByTwoWays() {
        KingTies x = new KingTies();
        x.come(true, 20);
        x.come(false, 20);
        x.marry(0, 1, -1);
        x.bear(1, true);
        x.bear(1, true);
        x.come(false, 0);
        x.pass(16);
        x.marry(2, 4, -1);
        x.bear(4, false);
        x.pass(16);
        x.marry(3, 5, -1);
        x.bear(5, true);
        steps(x, 6, 0, 2);
        steps(x, 6, 1, 2);
        steps(x, 6, 4, 2);
        steps(x, 6, 2, 2);
        steps(x, 6, 3, 1);
        steps(x, 6, 6, 0);
    }
}
