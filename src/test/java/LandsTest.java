/** Promises 4 (found), 5 (setLaw), 10 (land) and 11 (ruled). */
public final class LandsTest {
    public static void main(String[] args) {
        landsAreFounded();
        foundingIsRefused();
        thereAreAtMostTwelve();
        lawsAreSet();
        theLineIsToldByEachLaw();
        theLineGoesOnBehindTheDead();
        fathersAndMothersLinesFollow();
        theEldestOfKinInherits();
        regentsRuleForTheYoung();
        rulersAreToldBack();
        landRefusesWhatIsNotThere();
        Check.end();
    }

    private static void landsAreFounded() {
        KingTies x = new KingTies();
        x.come(true, 20);
        Check.same("the first land", x.found(1, 0, 0), 0);
        Check.same("the second land", x.found(50, 3, -1), 1);
        int[][] due = {{1, 0, 0, -1, -1, 1}, {50, 3, -1, -1, -1, 0}};
        for (int land = 0; land < 2; land++) {
            for (int what = 0; what < 6; what++) {
                Check.same("land(" + land + ", " + what + ")", x.land(land, what), due[land][what]);
            }
        }
    }

    private static void foundingIsRefused() {
        KingTies x = new KingTies();
        x.come(true, 20);
        x.come(true, 20);
        x.die(1);
        for (int worth : new int[] {0, 51, -1, Integer.MIN_VALUE, Integer.MAX_VALUE}) {
            Check.refusesArgument(x, "found(" + worth + ", 0, 9)", () -> x.found(worth, 0, 9));
        }
        for (int law : new int[] {-1, 4, Integer.MIN_VALUE, Integer.MAX_VALUE}) {
            Check.refusesArgument(x, "found(1, " + law + ", 9)", () -> x.found(1, law, 9));
        }
        for (int ruler : new int[] {-2, 2, Integer.MIN_VALUE, Integer.MAX_VALUE}) {
            Check.refusesIndex(x, "found(1, 0, " + ruler + ")", () -> x.found(1, 0, ruler));
        }
        Check.refusesState(x, "found with a dead ruler", () -> x.found(1, 0, 1));
        Check.same("lands after refusals", x.count(4), 0);
    }

    private static void thereAreAtMostTwelve() {
        KingTies x = new KingTies();
        x.come(false, 20);
        for (int land = 0; land < 12; land++) {
            Check.same("land " + land, x.found(land + 1, land % 4, land % 2 - 1), land);
        }
        Check.refusesState(x, "found with 12 lands", () -> x.found(1, 0, 0));
        Check.refusesState(x, "found with 12 lands, without a ruler", () -> x.found(1, 0, -1));
        Check.refusesArgument(x, "found with 12 lands and no worth", () -> x.found(0, 0, 0));
        Check.refusesIndex(x, "found with 12 lands and nobody", () -> x.found(1, 0, 1));
        Check.same("worth of six lands", x.person(0, 8), 2 + 4 + 6 + 8 + 10 + 12);
    }

    private static void lawsAreSet() {
        KingTies x = new KingTies();
        x.found(5, 2, -1);
        Check.same("setLaw(0, 3)", x.setLaw(0, 3), 2);
        Check.same("setLaw(0, 0)", x.setLaw(0, 0), 3);
        Check.same("setLaw(0, 0) again", x.setLaw(0, 0), 0);
        Check.same("the law now", x.land(0, 1), 0);
        for (int law : new int[] {-1, 4, Integer.MIN_VALUE, Integer.MAX_VALUE}) {
            Check.refusesArgument(x, "setLaw(0, " + law + ")", () -> x.setLaw(0, law));
        }
        for (int land : new int[] {-1, 1, Integer.MIN_VALUE, Integer.MAX_VALUE}) {
            Check.refusesIndex(x, "setLaw(" + land + ", 4)", () -> x.setLaw(land, 4));
        }
    }

    private static void heirs(String state, KingTies x, int land, int... due) {
        int before = x.land(land, 1);
        for (int law = 0; law < 4; law++) {
            x.setLaw(land, law);
            Check.same("heir by the law " + law + ", " + state, x.land(land, 4), due[law]);
        }
        x.setLaw(land, before);
    }

    private static void theLineIsToldByEachLaw() {
        KingTies x = new KingTies();
        x.come(true, 30);
        x.come(false, 40);
        x.found(5, 0, 0);
        heirs("without kin", x, 0, -1, -1, -1, -1);
        x.marry(0, 1, -1);
        heirs("with a wife alone", x, 0, -1, -1, -1, -1);
        x.bear(1, false);
        heirs("with a daughter", x, 0, 2, 2, 2, 2);
        x.bear(1, true);
        heirs("with a twin son", x, 0, 3, 2, 3, 2);
        x.pass(1);
        x.bear(1, true);
        x.bear(1, false);
        heirs("with two of each", x, 0, 3, 2, 5, 2);
        x.die(3);
        heirs("without the elder son", x, 0, 4, 2, 5, 2);
        x.die(4);
        x.die(2);
        heirs("with one daughter left", x, 0, 5, 5, 5, 5);
    }

    private static void theLineGoesOnBehindTheDead() {
        KingTies x = new KingTies();
        x.come(true, 20);
        x.come(false, 20);
        x.found(5, 0, 0);
        x.marry(0, 1, -1);
        x.bear(1, true);
        x.bear(1, false);
        x.bear(1, true);
        x.pass(20);
        x.come(false, 20);
        x.come(true, 20);
        x.marry(2, 5, -1);
        x.marry(3, 6, -1);
        x.bear(5, false);
        x.bear(3, true);
        heirs("ahead of the deaths", x, 0, 2, 2, 4, 2);
        x.die(2);
        heirs("a granddaughter for the dead son", x, 0, 7, 7, 4, 3);
        x.die(4);
        heirs("the line by the youngest", x, 0, 7, 7, 3, 3);
        x.die(3);
        heirs("grandchildren alone", x, 0, 7, 7, 8, 7);
        x.die(7);
        heirs("the other line", x, 0, 8, 8, 8, 8);
        x.die(8);
        heirs("nobody left", x, 0, -1, -1, -1, -1);
    }

    private static void fathersAndMothersLinesFollow() {
        KingTies x = new KingTies();
        x.come(true, 30);
        x.come(false, 25);
        x.come(true, 40);
        x.come(false, 22);
        x.marry(2, 1, -1);
        x.bear(1, true);
        x.annul(1);
        x.marry(0, 1, -1);
        x.bear(1, false);
        x.annul(1);
        x.marry(0, 3, -1);
        x.bear(3, true);
        x.found(5, 0, 5);
        heirs("of the daughter: the father's line first", x, 0, 6, 6, 6, 0);
        x.die(6);
        heirs("of the daughter: then the mother's line", x, 0, 4, 4, 4, 0);
        x.die(0);
        heirs("of the daughter: dead fathers have a line too", x, 0, 4, 4, 4, 1);
        x.die(4);
        heirs("of the daughter: nobody in the lines but herself", x, 0, -1, -1, -1, 1);
        x.die(5);
        Check.same("nobody inherits by the law 0", x.land(0, 2), -1);
        Check.same("no heir without a ruler", x.land(0, 4), -1);
        Check.same("no regent without a ruler", x.land(0, 3), -1);
        Check.same("one ruler was there", x.land(0, 5), 1);
        Check.same("the latest ruler is still told", x.ruled(0, 0), 5);
    }

    private static void theEldestOfKinInherits() {
        KingTies x = new KingTies();
        x.come(false, 20);
        x.come(true, 20);
        x.come(true, 60);
        x.marry(0, 1, -1);
        x.bear(0, true);
        x.found(5, 3, 3);
        Check.same("of parents born in one year, the smaller number", x.land(0, 4), 0);
        x.found(6, 3, 1);
        Check.same("the child, not the wife or a stranger", x.land(1, 4), 3);
        x.die(0);
        Check.same("the father", x.land(0, 4), 1);
        x.die(1);
        Check.same("the son inherits both", x.person(3, 7), 2);
        Check.same("no kin is left", x.land(0, 4), -1);
    }

    private static void regentsRuleForTheYoung() {
        KingTies x = new KingTies();
        x.come(true, 30);
        x.come(false, 25);
        x.marry(0, 1, -1);
        x.bear(1, true);
        x.found(5, 0, 2);
        Check.same("the mother", x.land(0, 3), 1);
        x.pass(15);
        Check.same("the mother at 15", x.land(0, 3), 1);
        x.pass(1);
        Check.same("nobody at 16", x.land(0, 3), -1);
        x.come(false, 16);
        x.marry(2, 3, -1);
        x.bear(3, true);
        x.bear(3, true);
        x.found(6, 1, 4);
        x.die(3);
        Check.same("the father", x.land(1, 3), 2);
        x.die(2);
        Check.same("of grandparents the one before in age", x.land(1, 3), 0);
        x.die(0);
        Check.same("the grandmother", x.land(1, 3), 1);
        x.die(1);
        Check.same("a brother is too young", x.land(1, 3), -1);
        x.pass(15);
        Check.same("nobody, at 15", x.land(1, 3), -1);
        strangersAndFarKin();
    }

    private static void strangersAndFarKin() {
        KingTies x = new KingTies();
        x.come(true, 10);
        x.come(true, 40);
        x.come(false, 39);
        x.come(true, 38);
        x.found(5, 0, 0);
        Check.same("no stranger is regent", x.land(0, 3), -1);
        x.marry(1, 2, -1);
        x.bear(2, true);
        x.pass(16);
        x.bear(2, true);
        x.found(5, 0, 5);
        x.die(2);
        x.die(1);
        Check.same("a brother of 16", x.land(1, 3), 4);
        x.die(4);
        Check.same("nobody but strangers", x.land(1, 3), -1);
        nearerKinIsRegent();
    }

    private static void nearerKinIsRegent() {
        KingTies x = new KingTies();
        x.come(true, 16);
        x.come(false, 16);
        x.marry(0, 1, -1);
        x.bear(1, true);
        x.pass(1);
        x.bear(1, true);
        x.pass(15);
        x.come(false, 20);
        x.marry(2, 4, -1);
        x.bear(4, true);
        x.pass(5);
        x.bear(4, false);
        x.found(9, 0, 6);
        x.pass(11);
        x.die(2);
        x.die(4);
        Check.same("a brother of 16 by 2 steps, a grandfather by 2, before in age", x.land(0, 3), 0);
        x.die(0);
        x.die(1);
        Check.same("a brother by 2 steps ahead of an uncle by 3", x.land(0, 3), 5);
        x.die(5);
        Check.same("the uncle", x.land(0, 3), 3);
        nearerKinIsRegentAheadOfOlderKin();
    }

    private static void nearerKinIsRegentAheadOfOlderKin() {
        KingTies x = new KingTies();
        x.come(true, 16);
        x.come(false, 16);
        x.come(false, 17);
        x.come(true, 17);
        x.marry(0, 1, -1);
        x.marry(2, 3, -1);
        x.bear(2, false);
        x.bear(1, true);
        x.pass(16);
        x.come(true, 16);
        x.marry(4, 6, -1);
        x.bear(4, false);
        x.pass(16);
        x.marry(5, 7, -1);
        x.bear(7, true);
        x.found(9, 0, 8);
        x.die(7);
        x.die(5);
        x.die(4);
        Check.same("steps to the grandfather", x.related(8, 0), 2);
        Check.same("steps to an older great-grandmother", x.related(8, 2), 3);
        Check.same("the grandfather", x.land(0, 3), 0);
        x.die(0);
        x.die(1);
        Check.same("the other grandfather, who is young", x.land(0, 3), 6);
        x.die(6);
        Check.same("the great-grandmother", x.land(0, 3), 2);
    }

    private static void rulersAreToldBack() {
        KingTies x = new KingTies();
        x.come(true, 20);
        x.come(false, 20);
        x.found(5, 0, 0);
        for (int turn = 0; turn < 7; turn++) {
            x.marry(0, 1, 0);
            x.annul(0);
        }
        Check.same("fifteen rulers", x.land(0, 5), 15);
        Check.same("the first one is kept", x.ruled(0, 14), 0);
        Check.refusesIndex(x, "ruled(0, 15) of fifteen", () -> x.ruled(0, 15));
        x.marry(1, 0, 0);
        Check.same("sixteen rulers", x.land(0, 5), 16);
        for (int back = 0; back < 15; back++) {
            Check.same("ruled(0, " + back + ")", x.ruled(0, back), back % 2 == 0 ? 1 : 0);
        }
        Check.refusesIndex(x, "ruled(0, 15) of sixteen", () -> x.ruled(0, 15));
        Check.refusesIndex(x, "ruled(0, -1)", () -> x.ruled(0, -1));
        Check.refusesIndex(x, "ruled(0, the least)", () -> x.ruled(0, Integer.MIN_VALUE));
        Check.refusesIndex(x, "ruled(0, the most)", () -> x.ruled(0, Integer.MAX_VALUE));
        for (int land : new int[] {-1, 1, 12, Integer.MIN_VALUE, Integer.MAX_VALUE}) {
            Check.refusesIndex(x, "ruled(" + land + ", 0)", () -> x.ruled(land, 0));
        }
        x.found(6, 1, -1);
        Check.refusesIndex(x, "ruled of a land that had no ruler", () -> x.ruled(1, 0));
    }

    private static void landRefusesWhatIsNotThere() {
        KingTies x = new KingTies();
        x.found(5, 0, -1);
        for (int what : new int[] {-1, 6, Integer.MIN_VALUE, Integer.MAX_VALUE}) {
            Check.refusesIndex(x, "land(0, " + what + ")", () -> x.land(0, what));
        }
        for (int land : new int[] {-1, 1, 12, Integer.MIN_VALUE, Integer.MAX_VALUE}) {
            Check.refusesIndex(x, "land(" + land + ", 0)", () -> x.land(land, 0));
        }
    }
}
