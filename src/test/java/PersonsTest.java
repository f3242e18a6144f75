/** Promises 1 (a new object), 2 (come), 3 (bear) and 9 (person). */
public final class PersonsTest {
    public static void main(String[] args) {
        aNewWorldIsEmpty();
        personsComeFromAfar();
        comersAreRefused();
        childrenAreBorn();
        birthsAreRefused();
        thereAreAtMostForty();
        personTellsEachFact();
        Check.end();
    }

    private static void aNewWorldIsEmpty() {
        KingTies x = new KingTies();
        for (int what = 0; what < 8; what++) {
            Check.same("count(" + what + ") of a new world", x.count(what), 0);
        }
        Check.same("mean of a new world", x.mean(), 0.0);
        Check.refusesIndex(x, "person(0, 0) of a new world", () -> x.person(0, 0));
        Check.refusesIndex(x, "land(0, 0) of a new world", () -> x.land(0, 0));
        KingTies other = new KingTies();
        x.come(true, 1);
        Check.same("persons of another world", other.count(1), 0);
    }

    private static void personsComeFromAfar() {
        KingTies x = new KingTies();
        Check.same("the first comer", x.come(true, 0), 0);
        Check.same("the second comer", x.come(false, 60), 1);
        x.pass(7);
        Check.same("the third comer", x.come(true, 3), 2);
        int[][] due = {{1, 0, 1, -1, -1, -1, 0, 0, 0, -1}, {0, -60, 1, -1, -1, -1, 0, 0, 0, -1},
            {1, 4, 1, -1, -1, -1, 0, 0, 0, -1}};
        for (int one = 0; one < 3; one++) {
            for (int what = 0; what < 10; what++) {
                Check.same("person(" + one + ", " + what + ")", x.person(one, what), due[one][what]);
            }
        }
    }

    private static void comersAreRefused() {
        KingTies x = new KingTies();
        for (int age : new int[] {-1, 61, Integer.MIN_VALUE, Integer.MAX_VALUE}) {
            Check.refusesArgument(x, "come(true, " + age + ")", () -> x.come(true, age));
        }
        Check.same("persons after refusals", x.count(1), 0);
    }

    private static void childrenAreBorn() {
        KingTies x = couple();
        x.pass(2);
        Check.same("a daughter", x.bear(1, false), 2);
        Check.same("a son", x.bear(1, true), 3);
        int[][] due = {{0, 2, 1, 1, 0, -1, 0, 0, 0, -1}, {1, 2, 1, 1, 0, -1, 0, 0, 0, -1}};
        for (int one = 2; one < 4; one++) {
            for (int what = 0; what < 10; what++) {
                Check.same("child's person(" + one + ", " + what + ")", x.person(one, what), due[one - 2][what]);
            }
        }
        x.annul(1);
        x.come(true, 20);
        x.marry(1, 4, -1);
        Check.same("a child of the second husband", x.bear(1, true), 5);
        Check.same("its father", x.person(5, 4), 4);
        Check.same("children of the mother", x.person(1, 6), 3);
        Check.same("children of the first husband", x.person(0, 6), 2);
        Check.same("children of the second husband", x.person(4, 6), 1);
    }

    private static void birthsAreRefused() {
        KingTies x = couple();
        x.come(false, 30);
        for (int mother : new int[] {-1, 3, Integer.MIN_VALUE, Integer.MAX_VALUE}) {
            Check.refusesIndex(x, "bear(" + mother + ")", () -> x.bear(mother, true));
        }
        Check.refusesState(x, "bear of a man", () -> x.bear(0, true));
        Check.refusesState(x, "bear of an unmarried woman", () -> x.bear(2, true));
        x.die(1);
        Check.refusesState(x, "bear of a dead woman", () -> x.bear(1, true));
        x.marry(0, 2, -1);
        x.die(0);
        Check.refusesState(x, "bear of a widow", () -> x.bear(2, true));
        KingTies y = couple();
        y.annul(0);
        Check.refusesState(y, "bear after the marriage is annulled", () -> y.bear(1, true));
    }

    private static void thereAreAtMostForty() {
        KingTies x = couple();
        for (int one = 2; one < 39; one++) {
            Check.same("person " + one, x.come(one % 2 == 0, one), one);
        }
        Check.same("the fortieth is born", x.bear(1, true), 39);
        Check.same("forty persons", x.count(1), 40);
        Check.refusesState(x, "come with 40", () -> x.come(true, 1));
        Check.refusesState(x, "bear with 40", () -> x.bear(1, true));
        Check.refusesArgument(x, "come with 40 and a wrong age", () -> x.come(true, 61));
        Check.refusesIndex(x, "bear with 40 of nobody", () -> x.bear(40, true));
        x.die(5);
        Check.refusesState(x, "come with 40, of whom one has died", () -> x.come(true, 1));
        Check.same("the last person", x.person(39, 1), 0);
    }

    private static void personTellsEachFact() {
        KingTies x = couple();
        x.found(7, 0, 0);
        x.found(11, 1, 0);
        x.found(13, 1, -1);
        x.bear(1, true);
        x.bear(1, false);
        x.pass(5);
        Check.same("lands", x.person(0, 7), 2);
        Check.same("worth", x.person(0, 8), 18);
        Check.same("married to", x.person(0, 5), 1);
        Check.same("his wife is married to", x.person(1, 5), 0);
        x.die(3);
        Check.same("children, with the one that has died", x.person(0, 6), 2);
        Check.same("children of the mother", x.person(1, 6), 2);
        x.die(0);
        int[] due = {1, -30, 0, -1, -1, -1, 2, 0, 0, 5};
        for (int what = 0; what < 10; what++) {
            Check.same("dead person(0, " + what + ")", x.person(0, what), due[what]);
        }
        Check.same("the widow is married to", x.person(1, 5), -1);
        Check.same("lands of the son", x.person(2, 7), 2);
        Check.same("worth of the son's lands", x.person(2, 8), 18);
        Check.same("dead in the year 0", deathInYearZero(), 0);
        for (int what : new int[] {-1, 10, Integer.MIN_VALUE, Integer.MAX_VALUE}) {
            Check.refusesIndex(x, "person(0, " + what + ")", () -> x.person(0, what));
        }
        for (int one : new int[] {-1, 4, 40, Integer.MIN_VALUE, Integer.MAX_VALUE}) {
            Check.refusesIndex(x, "person(" + one + ", 0)", () -> x.person(one, 0));
        }
    }

    private static int deathInYearZero() {
        KingTies x = couple();
        x.die(1);
        return x.person(1, 9);
    }

    private static KingTies couple() {
        KingTies x = new KingTies();
        x.come(true, 30);
        x.come(false, 25);
        x.marry(0, 1, -1);
        return x;
    }
}
