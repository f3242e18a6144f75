/** Promises 13 (count), 14 (pass), 15 (rules), 16 (foresee), 17 (best), 18 (mean) and 19 (digest). */
public final class YearsTest {
    public static void main(String[] args) {
        allIsCounted();
        yearsPass();
        theOldDieByNumbers();
        yearsAreRefused();
        rulesIsForeseen();
        rulersAreForeseen();
        lookingAheadChangesNothing();
        theBestMarriageIsTold();
        theMeanAgeIsTold();
        theDigestIsComputed();
        Check.end();
    }

    private static void counts(String state, KingTies x, int... due) {
        for (int what = 0; what < 8; what++) {
            Check.same("count(" + what + ") " + state, x.count(what), due[what]);
        }
    }

    private static void allIsCounted() {
        KingTies x = new KingTies();
        x.come(true, 30);
        x.come(false, 30);
        x.come(true, 15);
        x.come(true, 0);
        x.marry(0, 1, -1);
        x.found(5, 0, 0);
        x.found(5, 0, 0);
        x.found(5, 0, 2);
        x.found(5, 0, 2);
        x.found(5, 0, 3);
        x.found(5, 0, -1);
        counts("with three rulers", x, 0, 4, 4, 1, 6, 1, 3, 2);
        x.pass(1);
        counts("a year later", x, 1, 4, 4, 1, 6, 1, 3, 1);
        x.die(2);
        x.annul(0);
        counts("after a death", x, 1, 4, 3, 0, 6, 3, 2, 1);
        for (int what : new int[] {-1, 8, Integer.MIN_VALUE, Integer.MAX_VALUE}) {
            Check.refusesIndex(x, "count(" + what + ")", () -> x.count(what));
        }
    }

    private static void yearsPass() {
        KingTies x = new KingTies();
        x.come(true, 60);
        x.come(true, 59);
        x.come(true, 0);
        Check.same("nobody dies at 79", x.pass(19), 0);
        Check.same("one dies at 80", x.pass(1), 1);
        Check.same("the year of death", x.person(0, 9), 20);
        Check.same("the next one", x.pass(1), 1);
        Check.same("nobody more", x.pass(58), 0);
        Check.same("the last one", x.pass(100), 1);
        Check.same("the last year of death", x.person(2, 9), 80);
        Check.same("the year", x.count(0), 179);
        Check.same("those who live", x.count(2), 0);
        Check.same("nobody is left to die", x.pass(100), 0);
    }

    private static void theOldDieByNumbers() {
        KingTies x = new KingTies();
        x.come(true, 20);
        x.come(false, 20);
        x.marry(0, 1, -1);
        x.bear(1, true);
        x.bear(1, true);
        x.found(5, 2, 2);
        x.found(6, 0, 3);
        x.pass(79);
        Check.same("both brothers live at 79", x.count(2), 2);
        Check.same("both die in one year", x.pass(1), 2);
        Check.same("the first one's land went to the second one", x.land(0, 5), 2);
        Check.same("who ruled it last", x.ruled(0, 0), 3);
        Check.same("the second one's land went to nobody", x.land(1, 5), 1);
        Check.same("without a ruler", x.count(5), 2);
        Check.same("marriages of the dead", x.count(3), 0);
    }

    private static void yearsAreRefused() {
        KingTies x = new KingTies();
        x.come(true, 30);
        x.found(5, 0, 0);
        for (int years : new int[] {0, -1, 101, Integer.MIN_VALUE, Integer.MAX_VALUE}) {
            Check.refusesArgument(x, "pass(" + years + ")", () -> x.pass(years));
            Check.refusesArgument(x, "foresee(" + years + ", 0)", () -> x.foresee(years, 0));
            Check.refusesArgument(x, "foresee(" + years + ", 1)", () -> x.foresee(years, 1));
        }
        for (int land : new int[] {-1, 1, 12, Integer.MIN_VALUE, Integer.MAX_VALUE}) {
            Check.refusesIndex(x, "foresee(1, " + land + ")", () -> x.foresee(1, land));
        }
        for (int one : new int[] {-1, 1, 40, Integer.MIN_VALUE, Integer.MAX_VALUE}) {
            Check.refusesIndex(x, "rules(" + one + ")", () -> x.rules(one));
            Check.refusesIndex(x, "best(" + one + ")", () -> x.best(one));
        }
    }

    /** A king of 20, his wife of 20, a son of 0, and a stranger of 0. */
    private static KingTies house() {
        KingTies x = new KingTies();
        x.come(true, 20);
        x.come(false, 20);
        x.marry(0, 1, -1);
        x.bear(1, true);
        x.come(true, 0);
        x.found(5, 0, 0);
        return x;
    }

    private static void rulesIsForeseen() {
        KingTies x = house();
        Check.same("the king rules", x.rules(0), 0);
        Check.same("the son rules when the king is 80", x.rules(2), 60);
        Check.same("the wife never rules", x.rules(1), -1);
        Check.same("the stranger never rules", x.rules(3), -1);
        x.pass(59);
        Check.same("the son rules in the next year", x.rules(2), 1);
        x.pass(1);
        Check.same("the son rules", x.rules(2), 0);
        Check.same("the dead king does not rule", x.rules(0), -1);
        rulesAtTheLimit();
    }

    // Who lives now dies within 80 years, so the longest wait is for a newborn ruler to be 80.
    private static void rulesAtTheLimit() {
        KingTies x = new KingTies();
        x.come(true, 16);
        x.come(false, 16);
        x.marry(0, 1, -1);
        x.bear(1, true);
        x.bear(1, true);
        x.found(5, 0, 2);
        Check.same("a brother of the same age, who dies behind the ruler in the same year", x.rules(3), -1);
        x.pass(1);
        x.bear(1, true);
        Check.same("a brother who is a year younger", x.rules(4), 79);
        x.found(6, 0, 4);
        Check.same("a ruler", x.rules(4), 0);
    }

    private static void rulersAreForeseen() {
        KingTies x = house();
        Check.same("the king in 1 year", x.foresee(1, 0), 0);
        Check.same("the king in 59 years", x.foresee(59, 0), 0);
        Check.same("the son in 60 years", x.foresee(60, 0), 2);
        Check.same("the son in 79 years", x.foresee(79, 0), 2);
        Check.same("nobody in 80 years", x.foresee(80, 0), -1);
        Check.same("nobody in 100 years", x.foresee(100, 0), -1);
        x.found(6, 0, -1);
        Check.same("nobody in a land without a ruler", x.foresee(5, 1), -1);
        x.bear(1, true);
        Check.same("the elder son by the law 0", x.foresee(60, 0), 2);
        x.setLaw(0, 2);
        Check.same("the younger son by the law 2", x.foresee(60, 0), 4);
        Check.same("the elder son does not come to rule", x.rules(2), -1);
        x.die(4);
        x.pass(60);
        Check.same("what was foreseen", x.land(0, 2), 2);
    }

    private static void lookingAheadChangesNothing() {
        KingTies x = house();
        x.annul(0);
        x.marry(0, 1, 0);
        long before = x.digest();
        x.foresee(100, 0);
        x.rules(3);
        x.rules(2);
        x.best(3);
        Check.same("the digest", x.digest(), before);
        Check.same("the ruler", x.land(0, 2), 1);
        Check.same("the treaty", x.annul(1), 0);
        Check.same("foreseen again", x.foresee(60, 0), 2);
        x.die(2);
        Check.same("foreseen anew", x.foresee(60, 0), -1);
        x.setLaw(0, 3);
        x.come(false, 20);
        x.marry(0, 4, -1);
        x.bear(4, false);
        Check.same("foreseen by the new law", x.foresee(60, 0), 5);
    }

    private static void theBestMarriageIsTold() {
        KingTies x = new KingTies();
        x.come(true, 30);
        Check.same("nobody is there", x.best(0), -1);
        x.come(true, 30);
        Check.same("no woman is there", x.best(0), -1);
        x.come(false, 15);
        Check.same("too young", x.best(0), -1);
        Check.same("too young herself", x.best(2), -1);
        x.pass(1);
        Check.same("one without lands", x.best(0), 2);
        x.come(false, 30);
        Check.same("of two without lands the smaller number", x.best(0), 2);
        x.found(10, 0, 3);
        Check.same("one with a land", x.best(0), 3);
        x.found(6, 0, 2);
        x.found(4, 0, 2);
        Check.same("of two with as much the smaller number", x.best(0), 2);
        x.found(1, 0, 3);
        Check.same("the one with more", x.best(0), 3);
        Check.same("of two men without lands", x.best(3), 0);
        x.found(50, 0, 1);
        Check.same("the man with a land", x.best(3), 1);
        x.marry(1, 3, -1);
        Check.same("not a married one", x.best(0), 2);
        Check.same("none for a married one", x.best(3), -1);
        x.die(2);
        Check.same("not a dead one", x.best(0), -1);
        Check.same("none for a dead one", x.best(2), -1);
        kinIsNoMatch();
    }

    private static void kinIsNoMatch() {
        KingTies x = new KingTies();
        x.come(true, 20);
        x.come(false, 20);
        x.marry(0, 1, -1);
        x.bear(1, true);
        x.bear(1, false);
        x.found(40, 0, 3);
        x.pass(16);
        Check.same("not the sister", x.best(2), -1);
        x.come(false, 16);
        Check.same("a stranger", x.best(2), 4);
        Check.same("nobody but kin for the sister", x.best(3), -1);
    }

    private static void theMeanAgeIsTold() {
        KingTies x = new KingTies();
        x.come(true, 0);
        Check.same("mean of a newborn", x.mean(), 0.0);
        x.come(true, 5);
        Check.same("mean of two", x.mean(), 2.5);
        x.come(true, 60);
        Check.same("mean of three", x.mean(), 65.0 / 3.0);
        x.pass(10);
        Check.same("mean ten years later", x.mean(), 95.0 / 3.0);
        x.die(2);
        Check.same("mean without the dead", x.mean(), 12.5);
        x.pass(100);
        Check.same("mean of nobody", x.mean(), 0.0);
    }

    private static long digestOf(long... numbers) {
        long sum = 887;
        for (long number : numbers) {
            sum = sum * 31 + number;
        }
        return sum;
    }

    private static void theDigestIsComputed() {
        KingTies x = new KingTies();
        Check.same("digest of a new world", x.digest(), digestOf(0, 0, 0, 0, 0, 0, 0, 0));
        x.come(true, 20);
        x.come(false, 18);
        x.found(9, 1, 0);
        x.found(8, 2, -1);
        x.marry(0, 1, 0);
        Check.same("digest of two persons and two lands", x.digest(), digestOf(
            0, 2, 2, 1, 2, 1, 1, 0,
            1, -20, 1, -1, -1, 1, 0, 0, 0, -1,
            0, -18, 1, -1, -1, 0, 0, 1, 9, -1,
            9, 1, 1, -1, -1, 2, 1, 0,
            8, 2, -1, -1, -1, 0));
        digestOfManyRulers();
    }

    private static void digestOfManyRulers() {
        KingTies x = new KingTies();
        x.come(true, 20);
        x.come(false, 18);
        x.found(9, 1, 0);
        for (int turn = 0; turn < 10; turn++) {
            x.marry(0, 1, 0);
            x.annul(0);
        }
        Check.same("digest of 21 rulers, of whom 15 are kept", x.digest(), digestOf(
            0, 2, 2, 0, 1, 0, 1, 0,
            1, -20, 1, -1, -1, -1, 0, 1, 9, -1,
            0, -18, 1, -1, -1, -1, 0, 0, 0, -1,
            9, 1, 0, -1, -1, 21, 0, 1, 0, 1, 0, 1, 0, 1, 0, 1, 0, 1, 0, 1, 0));
    }
}
